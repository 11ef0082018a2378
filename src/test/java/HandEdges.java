/** Promises 5 to 12: HOUSES and DAYS, DATES, what is done by hand, undone, and judged. */
final class HandEdges {
    private static final int NONE = DateVale.NONE;
    private static final int[] FAR = {Integer.MIN_VALUE, -32, -2, 7, 32, 64, Integer.MAX_VALUE};

    /** On the date 1: e to a, f to d; g is TURNED OFF: a is full, and nobody lends to it. */
    private static final String VALE = "house a beds 1 ; house b beds 2 ; house c beds 3 ; house d beds 6 ; "
        + "lends b d ; day e plain of a on 1 says 7 ; day f big of d on 1 says 9 ; day g early of a on 2 says 5 ; "
        + "clash e g ; stays 3 ; ";

    private final Edges edges;

    HandEdges(Edges edges) {
        this.edges = edges;
    }

    void all() {
        house();
        freeAndTalk();
        day();
        foes();
        beds();
        holds();
        faded();
        dateComes();
        goes();
        comes();
        kinds();
        leapYears();
        whereTo();
        move();
        moveOthers();
        send();
        build();
        undo();
        undoneWhole();
        notUndone();
        judgedLines();
        judgedBegin();
        judgedTurnedOff();
        judgedOthers();
    }

    private void house() {
        Edges.Edge edge = edges.of(5, "Of a HOUSE, what 0: beds, 1: FREE, 2: DAYS that are there, as bits, "
            + "3: HOUSES that lend to it, as bits, 4: TALK; -2: others.");
        DateVale vale = edges.told(VALE, 1);
        int[][] want = {{1, 0, 1, 0, 6}, {2, 2, 0, 8, 0}, {3, 3, 0, 0, 0}, {6, 4, 2, 2, 8}};
        for (int house = 0; house < 4; house++) {
            for (int what = 0; what < 5; what++) {
                edge.within("house(" + house + ", " + what + ")", vale.house(house, what), want[house][what]);
            }
            edge.beyond("house(" + house + ", -1)", vale.house(house, -1), -2);
            edge.beyond("house(" + house + ", 5)", vale.house(house, 5), -2);
        }
        for (int what = -1; what < 6; what++) {
            edge.beyond("house(-1, " + what + ")", vale.house(-1, what), -2);
            edge.beyond("house(4, " + what + ")", vale.house(4, what), -2);
        }
        for (int far : FAR) {
            edge.beyond("house(" + far + ", 0)", vale.house(far, 0), -2);
            edge.beyond("house(0, " + far + ")", vale.house(0, far), -2);
        }
        DateVale one = edges.told("house a beds 1 ;");
        edge.within("the one HOUSE told", one.house(0, 0), 1);
        edge.beyond("a second one", one.house(1, 0), -2);
        edge.beyond("no HOUSE told", new DateVale().house(0, 0), -2);
    }

    private void freeAndTalk() {
        Edges.Edge free = edges.of(5, "FREE of a HOUSE: beds.");
        Edges.Edge talk = edges.of(5, "TALK: what all in a HOUSE say, together.");
        StringBuilder text = new StringBuilder("house a beds 6 ; house z beds 1 ; fades 9 ; ");
        for (char day = 'b'; day <= 'g'; day++) {
            text.append("day ").append(day).append(" plain of a on 1 says 40 ; ");
        }
        DateVale vale = edges.told(text.toString());
        free.within("all", vale.house(0, 1), 6);
        talk.beyond("nobody is there", vale.house(0, 4), 0);
        vale.date();
        free.beyond("none", vale.house(0, 1), 0);
        free.within("one, in z", vale.house(1, 1), 1);
        free.within("six DAYS", vale.house(0, 2), 63);
        talk.within("six of 49", vale.house(0, 4), 6 * 49);
        talk.beyond("nobody in z", vale.house(1, 4), 0);
        vale.build(0);
        free.within("one built", vale.house(0, 1), 1);
        vale.send(5);
        free.within("one sent off", vale.house(0, 1), 2);
        talk.within("five of 49", vale.house(0, 4), 5 * 49);
    }

    private void day() {
        Edges.Edge edge = edges.of(6, "Of a DAY, what 0: KIND (0 plain, 1 big, 2 early, 3 leap), 1: the HOUSE that it is of, "
            + "2: its date, 3: what it says, 4: where it is (NONE: nowhere), 5: how long it has been there (0: nowhere), "
            + "6: how often it has come, 7: FOES, as bits; -2: others.");
        DateVale vale = edges.told(VALE + "day i leap of b on 11 says 40 ; ", 3);
        int[][] want = {
            {0, 0, 1, 6, 0, 2, 1, 4}, {1, 3, 1, 8, 3, 2, 1, 0}, {2, 0, 2, 5, NONE, 0, 0, 1}, {3, 1, 11, 40, NONE, 0, 0, 0},
        };
        for (int day = 0; day < 4; day++) {
            for (int what = 0; what < 8; what++) {
                edge.within("day(" + day + ", " + what + ")", vale.day(day, what), want[day][what]);
            }
            edge.beyond("day(" + day + ", -1)", vale.day(day, -1), -2);
            edge.beyond("day(" + day + ", 8)", vale.day(day, 8), -2);
        }
        for (int what = -1; what < 9; what++) {
            edge.beyond("day(-1, " + what + ")", vale.day(-1, what), -2);
            edge.beyond("day(4, " + what + ")", vale.day(4, what), -2);
        }
        for (int far : new int[] {Integer.MIN_VALUE, -32, -2, 32, 64, Integer.MAX_VALUE}) {
            edge.beyond("day(" + far + ", 0)", vale.day(far, 0), -2);
            edge.beyond("day(0, " + far + ")", vale.day(0, far), -2);
        }
        vale.date();
        edge.beyond("gone: nowhere", vale.day(0, 4), NONE);
        edge.beyond("gone: 0", vale.day(0, 5), 0);
        edge.within("it has come", vale.day(0, 6), 1);
        Bench.dates(vale, 9);
        edge.within("come a second time", vale.day(0, 6), 2);
        edge.within("for no time yet", vale.day(0, 5), 0);
        edge.within("somewhere", vale.day(0, 4), 0);
        edge.beyond("no DAY told", new DateVale().day(0, 0), -2);
        DateVale away = edges.told("house a beds 1 ; day b plain of a on 9 says 9 ; stays 4 ; ");
        for (int dates = 0; dates < 9; dates++) {
            edge.beyond("nowhere for " + dates + ": 0", away.day(0, 5), 0);
            away.date();
        }
        for (int dates = 0; dates < 4; dates++) {
            edge.within("there for " + dates, away.day(0, 5), dates);
            away.date();
        }
        for (int dates = 0; dates < 6; dates++) {
            edge.beyond("gone for " + dates + ": 0", away.day(0, 5), 0);
            away.date();
        }
    }

    private void foes() {
        Edges.Edge edge = edges.of(6, "FOES of a DAY: those with which it clashes (bits).");
        StringBuilder text = new StringBuilder("house h beds 1 ; ");
        for (char day = 'a'; day <= 'f'; day++) {
            text.append("day ").append(day).append(" plain of h on 1 says 1 ; ");
        }
        edge.beyond("none", edges.told(text.toString()).day(0, 7), 0);
        for (char day = 'a'; day < 'f'; day++) {
            text.append("clash f ").append(day).append(" ; ");
        }
        DateVale vale = edges.told(text.toString());
        edge.within("all others", vale.day(5, 7), 31);
        for (int day = 0; day < 5; day++) {
            edge.within("f", vale.day(day, 7), 32);
        }
    }

    private void beds() {
        Edges.Edge edge = edges.of(7, "A DAY lies in beds: a big one in two, all others in one.");
        String[] kinds = {"plain", "big", "early", "leap"};
        for (String kind : kinds) {
            int wants = kind.equals("big") ? 2 : 1;
            int on = kind.equals("early") ? 2 : 1;
            for (int beds = 1; beds <= 6; beds++) {
                StringBuilder text = new StringBuilder("house a beds " + beds + " ; ");
                for (char day = 'b'; day <= 'g'; day++) {
                    text.append("day ").append(day).append(' ').append(kind).append(" of a on ").append(on).append(" says 5 ; ");
                }
                DateVale vale = edges.told(text.toString(), 1);
                int come = beds / wants;
                edge.within(come + " of " + kind + " in " + beds, vale.count(5), (1 << come) - 1);
                edge.beyond("the others are TURNED OFF", vale.count(7), 6 - come);
                edge.within("FREE", vale.house(0, 1), beds - come * wants);
            }
        }
    }

    private void holds() {
        Edges.Edge edge = edges.of(7, "A HOUSE HOLDS a DAY if it has as many beds free, and none that it clashes with is there.");
        String text = "house a beds %d ; day b plain of a on 1 says 5 ; day c big of a on 1 says 5 ; ";
        edge.beyond("2 beds, one free for c", edges.told(String.format(text, 2)).date(), 1);
        edge.within("3 beds, two free for c", edges.told(String.format(text, 3)).date(), 3);
        edge.beyond("3 beds, they clash", edges.told(String.format(text, 3) + "clash b c ;").date(), 1);
        edge.beyond("3 beds, they clash, told the other way round", edges.told(String.format(text, 3) + "clash c b ;").date(), 1);
        String three = "house a beds 6 ; house d beds 1 ; day b plain of d on 1 says 5 ; day c plain of a on 1 says 5 ; "
            + "day e plain of a on 1 says 5 ; ";
        edge.within("one that it clashes with is elsewhere", edges.told(three + "clash b e ;").date(), 7);
        edge.within("others clash", edges.told(three + "clash b c ;").date(), 7);
        edge.beyond("one of two there", edges.told(three + "clash c e ;").date(), 3);
        DateVale gone = edges.told("house a beds 6 ; day b plain of a on 1 says 5 ; day c plain of a on 2 says 5 ; clash b c ;", 1);
        edge.within("one that it clashes with has gone", gone.date(), 2);
    }

    private void faded() {
        Edges.Edge edge = edges.of(7, "A DAY that says 0 has FADED, and comes no more.");
        DateVale vale = edges.told("house a beds 3 ; day b plain of a on 1 says 0 ; day c plain of a on 1 says 1 ; "
            + "day d plain of a on 1 says 2 ; ");
        edge.beyond("b has FADED", vale.count(8), 1);
        edge.within("c and d come", vale.date(), 6);
        edge.beyond("c has FADED", vale.count(8), 3);
        edge.within("and is there yet", vale.count(5), 6);
        edge.beyond("nobody is TURNED OFF", vale.count(7), 0);
        Bench.dates(vale, 11);
        edge.within("d comes", vale.date(), 4);
        Bench.dates(vale, 11);
        edge.beyond("nobody comes", vale.date(), 0);
        edge.beyond("all have FADED", vale.count(8), 7);
        edge.beyond("one that has FADED is not TURNED OFF", vale.count(7), 0);
    }

    private void dateComes() {
        Edges.Edge edge = edges.of(7, "DATE: the next date comes (behind the date 11 the date 0 of the next year)");
        DateVale vale = new DateVale();
        for (int gone = 1; gone <= 50; gone++) {
            vale.date();
            if (gone % 12 == 0) {
                edge.beyond("the date behind " + gone, vale.count(4), 0);
                edge.beyond("the year behind " + gone, vale.count(3), gone / 12);
            } else {
                edge.within("the date behind " + gone, vale.count(4), gone - gone / 12 * 12);
                edge.within("the year behind " + gone, vale.count(3), gone / 12);
            }
        }
    }

    private void goes() {
        Edges.Edge edge = edges.of(7, "each DAY that is somewhere has been there a date longer, and goes if that is as long as one stays");
        for (int stays = 1; stays <= 4; stays++) {
            DateVale vale = edges.told("house a beds 1 ; day b plain of a on 11 says 9 ; stays " + stays + " ; ", 11);
            for (int been = 0; been < stays; been++) {
                edge.within("stays " + stays + ", there", vale.day(0, 4), 0);
                edge.within("stays " + stays + ", been", vale.day(0, 5), been);
                edge.within("stays " + stays + ", count(5)", vale.count(5), 1);
                vale.date();
            }
            edge.beyond("stays " + stays + ", gone", vale.day(0, 4), NONE);
            edge.beyond("stays " + stays + ", 0", vale.day(0, 5), 0);
            edge.beyond("stays " + stays + ", FREE", vale.house(0, 1), 1);
        }
        for (int later = 1; later <= 4; later++) {
            DateVale vale = edges.told("house a beds 1 ; day c plain of a on " + (1 + later) + " says 9 ; "
                + "day b plain of a on 1 says 9 ; stays 3 ;", later);
            if (later < 3) {
                edge.within("b is there yet: c is TURNED OFF", vale.date(), 0);
            } else {
                edge.beyond("b goes ahead of who comes", vale.date(), 1);
            }
            edge.within("so many were", vale.count(7), later < 3 ? 1 : 0);
        }
    }

    private void comes() {
        Edges.Edge edge = edges.of(7, "then, by numbers, each DAY that is nowhere, has not FADED, and whose date it is, COMES");
        String two = "house a beds 1 ; day %s plain of a on 1 says 9 ; day %s plain of a on 1 says 9 ; ";
        edge.within("the first told", edges.told(String.format(two, "b", "c")).date(), 1);
        edge.within("not by NAMES", edges.told(String.format(two, "c", "b")).date(), 1);
        DateVale dates = edges.told("house a beds 6 ; day b plain of a on 2 says 9 ; day c plain of a on 3 says 9 ; "
            + "day d plain of a on 2 says 0 ; ");
        edge.beyond("the date ahead", dates.date(), 0);
        edge.within("its date", dates.date(), 1);
        edge.beyond("the date behind: c alone", dates.date(), 2);
        Edges.Edge answer = edges.of(7, "DATE: who COMES, as bits.");
        StringBuilder text = new StringBuilder("house a beds 5 ; ");
        for (char day = 'b'; day <= 'g'; day++) {
            text.append("day ").append(day).append(" plain of a on 1 says 9 ; ");
        }
        answer.beyond("the sixth is TURNED OFF", edges.told(text.toString()).date(), 31);
        answer.within("all six", edges.told(text.toString().replace("beds 5", "beds 6")).date(), 63);
        answer.beyond("no DAYS", new DateVale().date(), 0);
        DateVale stays = edges.told(text + "stays 2 ; ", 1);
        answer.beyond("who stays does not come", stays.date(), 0);
    }

    private void kinds() {
        Edges.Edge edge = edges.of(7, "a plain, a big one on their date, an early one on the date ahead of it (of the date 0: 11), "
            + "a leap one on its date in years that 4 divides");
        String[] kinds = {"plain", "big", "early", "leap"};
        for (int on = 0; on < 12; on++) {
            DateVale vale = edges.told("house a beds 6 ; day b plain of a on " + on + " says 9 ; day c big of a on " + on
                + " says 9 ; day d early of a on " + on + " says 9 ; day e leap of a on " + on + " says 9 ; fades 0 ; ");
            for (int gone = 1; gone <= 62; gone++) {
                int came = vale.date();
                int date = gone % 12;
                boolean[] due = {date == on, date == on, on == 0 ? date == 11 : date == on - 1,
                    date == on && (gone < 12 || gone >= 48 && gone < 60)};
                for (int kind = 0; kind < 4; kind++) {
                    String what = kinds[kind] + " on " + on + " behind " + gone;
                    if (due[kind]) {
                        edge.within(what, came >> kind & 1, 1);
                    } else {
                        edge.beyond(what, came >> kind & 1, 0);
                    }
                }
            }
        }
    }

    private void leapYears() {
        Edges.Edge edge = edges.of(7, "a leap one on its date in years that 4 divides");
        for (int on : new int[] {0, 11}) {
            DateVale vale = edges.told("house a beds 1 ; day b leap of a on " + on + " says 9 ; ");
            for (int gone = 1; gone <= 120; gone++) {
                int came = vale.date();
                if (gone == on || gone == 48 + on || gone == 96 + on) {
                    edge.within("on " + on + " behind " + gone, came, 1);
                } else {
                    edge.beyond("on " + on + " behind " + gone, came, 0);
                }
            }
        }
    }

    private void whereTo() {
        Edges.Edge edge = edges.of(7, "to the HOUSE that it is of, if it HOLDS it, else to the first that lends to that one and HOLDS it, "
            + "else it is TURNED OFF.");
        String houses = "house a beds 6 ; house b beds 1 ; house c beds 1 ; house d beds 1 ; ";
        String days = "day e plain of c on 1 says 9 ; day f plain of c on 1 says 9 ; day g plain of c on 1 says 9 ; "
            + "day i plain of c on 1 says 9 ; ";
        DateVale vale = edges.told(houses + "lends c d ; lends c b ; lends a b ; " + days);
        edge.within("three come", vale.date(), 7);
        edge.within("its own first", vale.day(0, 4), 2);
        edge.within("then b, the first that lends", vale.day(1, 4), 1);
        edge.within("then d", vale.day(2, 4), 3);
        edge.beyond("a lends to b, not to c", vale.day(3, 4), NONE);
        edge.beyond("TURNED OFF", vale.count(7), 1);
        DateVale clash = edges.told(houses + "lends c d ; lends c b ; " + days + "clash f g ; clash e i ; clash g i ; ");
        clash.build(1);
        edge.within("b has two beds now", clash.date(), 15);
        edge.within("f in b", clash.day(1, 4), 1);
        edge.within("g, which clashes with f, in d", clash.day(2, 4), 3);
        edge.within("i in b: c and d are full", clash.day(3, 4), 1);
        DateVale big = edges.told("house a beds 1 ; house b beds 1 ; house c beds 2 ; lends a b ; lends a c ; day d big of a on 1 says 9 ; ", 1);
        edge.within("the first that HOLDS it", big.day(0, 4), 2);
        DateVale none = edges.told("house a beds 1 ; house b beds 6 ; day c big of a on 1 says 9 ; ", 1);
        edge.beyond("nobody lends", none.count(7), 1);
        Bench.dates(none, 12);
        edge.beyond("each time", none.count(7), 2);
        edge.beyond("it has not come", none.day(0, 6), 0);
    }

    private void refusedMoves(Edges.Edge edge, DateVale vale, int[]... moves) {
        int[] ahead = Edges.stateOf(vale);
        for (int[] move : moves) {
            edge.beyond("move(" + move[0] + ", " + move[1] + ")", vale.move(move[0], move[1]), false);
        }
        edge.stays("moves that can't be", vale, ahead);
    }

    private void move() {
        Edges.Edge edge = edges.of(8, "MOVE a DAY that is somewhere to another HOUSE that HOLDS it.");
        DateVale vale = edges.told(VALE, 2);
        // g is nowhere; e is in a; a has no bed free for f.
        refusedMoves(edge, vale, new int[] {2, 2}, new int[] {0, 0}, new int[] {1, 0});
        edge.within("two free for a big one", vale.move(1, 1), true);
        edge.within("it is there", vale.house(1, 2), 2);
        edge.within("no bed free there", vale.house(1, 1), 0);
        edge.within("all are free where it was", vale.house(3, 1), 6);
        edge.within("how often it has come", vale.day(1, 6), 1);
        edge.within("what it says", vale.day(1, 3), 8);
        edge.within("no need of lending", vale.move(0, 2), true);
        edge.within("there", vale.day(0, 4), 2);
        DateVale room = edges.told("house a beds 3 ; house b beds 1 ; day c plain of a on 1 says 9 ; day d big of a on 1 says 9 ; "
            + "day e plain of b on 1 says 9 ; ", 1);
        refusedMoves(edge, room, new int[] {0, 1}, new int[] {1, 1});
        room.build(1);
        refusedMoves(edge, room, new int[] {1, 1});
        edge.within("one free for a plain one", room.move(0, 1), true);
        edge.beyond("none free", room.move(1, 1), false);
        DateVale foes = edges.told("house a beds 6 ; house b beds 6 ; day c plain of a on 1 says 9 ; day d plain of b on 1 says 9 ; clash c d ; ", 1);
        refusedMoves(edge, foes, new int[] {0, 1}, new int[] {1, 0});
        foes.send(1);
        edge.within("nobody that it clashes with is there any more", foes.move(0, 1), true);
    }

    private void moveOthers() {
        Edges.Edge edge = edges.of(8, "MOVE: true; false: others, it can't be.");
        DateVale vale = edges.told(VALE, 1);
        edge.within("move(0, 3)", vale.move(0, 3), true);
        edge.within("move(0, 0)", vale.move(0, 0), true);
        edge.within("two can be undone more", vale.count(11), 3);
        refusedMoves(edge, vale, new int[] {0, NONE}, new int[] {0, 4}, new int[] {NONE, 1}, new int[] {3, 1}, new int[] {NONE, NONE});
        for (int far : FAR) {
            edge.beyond("move(" + far + ", 1)", vale.move(far, 1), false);
            edge.beyond("move(0, " + far + ")", vale.move(0, far), false);
        }
        edge.beyond("no VALE", new DateVale().move(0, 0), false);
    }

    private void send() {
        Edges.Edge edge = edges.of(9, "SEND one off that is somewhere: it goes.");
        DateVale vale = edges.told(VALE, 2);
        edge.within("e", vale.send(0), true);
        edge.within("nowhere", vale.day(0, 4), NONE);
        edge.within("0", vale.day(0, 5), 0);
        edge.within("its bed is free", vale.house(0, 1), 1);
        edge.within("what it says stays", vale.day(0, 3), 6);
        int[] ahead = Edges.stateOf(vale);
        edge.beyond("once more", vale.send(0), false);
        edge.beyond("g, which never came", vale.send(2), false);
        edge.stays("once more", vale, ahead);
        edge.within("it comes again a year later", vale.next(0), 11);
        Edges.Edge answer = edges.of(9, "SEND: true; false: others, nowhere.");
        answer.beyond("send(NONE)", vale.send(NONE), false);
        answer.beyond("send(3)", vale.send(3), false);
        for (int far : FAR) {
            answer.beyond("send(" + far + ")", vale.send(far), false);
        }
        answer.stays("others", vale, ahead);
        answer.within("f", vale.send(1), true);
        answer.within("one more can be undone", vale.count(11), 4);
        answer.beyond("no VALE", new DateVale().send(0), false);
        DateVale stays = edges.told("house a beds 1 ; day b plain of a on 1 says 9 ; day c plain of a on 2 says 9 ; stays 4 ; ", 1);
        stays.send(0);
        answer.within("its bed is free for c", stays.date(), 2);
    }

    private void build() {
        Edges.Edge edge = edges.of(10, "BUILD a bed in a HOUSE, 9 at most.");
        DateVale vale = edges.told("house a beds 1 ; house b beds 6 ; ");
        for (int beds = 2; beds <= 9; beds++) {
            edge.within("a", vale.build(0), beds);
        }
        int[] ahead = Edges.stateOf(vale);
        edge.beyond("a tenth", vale.build(0), NONE);
        edge.beyond("and again", vale.build(0), NONE);
        edge.stays("a tenth", vale, ahead);
        edge.within("b, 7", vale.build(1), 7);
        edge.within("b, 8", vale.build(1), 8);
        edge.within("b, 9", vale.build(1), 9);
        edge.beyond("b, 10", vale.build(1), NONE);
        edge.within("of all", vale.count(6), 18);
        edge.within("one undone", vale.undo(), true);
        edge.within("built anew", vale.build(1), 9);
        Edges.Edge answer = edges.of(10, "BUILD: beds then; NONE: others, it can't be.");
        DateVale other = edges.told("house a beds 1 ; ");
        ahead = Edges.stateOf(other);
        answer.beyond("build(NONE)", other.build(NONE), NONE);
        answer.beyond("build(1)", other.build(1), NONE);
        for (int far : FAR) {
            answer.beyond("build(" + far + ")", other.build(far), NONE);
        }
        answer.stays("others", other, ahead);
        answer.within("build(0)", other.build(0), 2);
        answer.beyond("no VALE", new DateVale().build(0), NONE);
    }

    private void undo() {
        Edges.Edge edge = edges.of(11, "UNDO: DATES and these, the last 16, one by one.");
        DateVale vale = edges.told("house a beds 1 ; ", 15);
        edge.within("15", vale.count(11), 15);
        vale.date();
        edge.within("16", vale.count(11), 16);
        vale.date();
        edge.beyond("17", vale.count(11), 16);
        for (int back = 1; back <= 16; back++) {
            edge.within("undone, " + back, vale.undo(), true);
            edge.within("the date", 12 * vale.count(3) + vale.count(4), 17 - back);
            edge.within("left", vale.count(11), 16 - back);
        }
        edge.beyond("a seventeenth", vale.undo(), false);
        edge.beyond("the date stays", vale.count(4), 1);
        Edges.Edge answer = edges.of(11, "UNDO: true; false: nothing can be.");
        DateVale fresh = edges.told(VALE);
        answer.beyond("nothing done", fresh.undo(), false);
        fresh.date();
        answer.within("a DATE", fresh.undo(), true);
        answer.beyond("nothing more", fresh.undo(), false);
        Bench.dates(fresh, 40);
        for (int back = 0; back < 16; back++) {
            answer.within("the last 16 of 40", fresh.undo(), true);
        }
        answer.beyond("no more", fresh.undo(), false);
        answer.within("24 are left", 12 * fresh.count(3) + fresh.count(4), 24);
        fresh.build(0);
        answer.within("one done behind", fresh.undo(), true);
        answer.beyond("and no more", fresh.undo(), false);
    }

    /** What is done is undone whole, one by one, whatever it is. */
    private void undoneWhole() {
        Edges.Edge edge = edges.of(11, "DATES and these");
        DateVale vale = edges.told(VALE);
        int[][] states = new int[8][];
        states[0] = Edges.stateOf(vale);
        vale.date();
        states[1] = Edges.stateOf(vale);
        vale.date();
        states[2] = Edges.stateOf(vale);
        edge.within("MOVE", vale.move(0, 1), true);
        DateVale same = edges.told(VALE, 2);
        edge.stays("another one with two DATES", same, states[2]);
        edge.within("undone", vale.undo(), true);
        edge.stays("the MOVE", vale, states[2]);
        edge.within("SEND", vale.send(1), true);
        edge.within("undone", vale.undo(), true);
        edge.within("how long it has been there is back", vale.day(1, 5), 1);
        DateVale other = edges.told(VALE, 2);
        other.send(1);
        other.undo();
        edge.stays("the SEND", other, states[2]);
        DateVale third = edges.told(VALE, 2);
        third.build(2);
        third.undo();
        edge.stays("the BUILD", third, states[2]);
        third.undo();
        edge.stays("a DATE", third, states[1]);
        third.undo();
        edge.stays("the first DATE", third, states[0]);
        edge.beyond("no more", third.undo(), false);
    }

    private void notUndone() {
        Edges.Edge edge = edges.of(11, "UNDO: DATES and these, the last 16");
        DateVale vale = edges.told(VALE);
        vale.see(NONE, 0);
        vale.mark(0, false);
        Bench.tellYear(vale, "date ;");
        Bench.feed(vale, "abc");
        edge.beyond("SEEN, MARKS, YEARS, the TAPE can't be", vale.count(11), 0);
        vale.date();
        vale.see(NONE, 0);
        vale.mark(1, false);
        Bench.feed(vale, "d");
        for (int refused = 0; refused < 20; refused++) {
            vale.move(2, 0);
            vale.send(2);
            vale.build(4);
        }
        edge.beyond("nor what can't be done", vale.count(11), 1);
        edge.within("the DATE", vale.undo(), true);
        edge.beyond("UNDO is not undone", vale.undo(), false);
        edge.within("date 0", vale.count(4), 0);
        edge.beyond("two are SEEN", vale.count(10), 2);
        edge.beyond("four signs", vale.count(12), 4);
        edge.beyond("one line", vale.count(9), 1);
        edge.beyond("the MARK is there", vale.mark(1, true), true);
        edge.beyond("the date 1", vale.count(4), 1);
    }

    /** The YEAR's first line that can't be. */
    private int impossible(String text, String year) {
        DateVale vale = edges.told(text);
        edges.bench.due("year() of " + year, Bench.tellYear(vale, year), 0);
        return vale.judged(0);
    }

    private void judgedLines() {
        Edges.Edge edge = edges.of(12, "the first line (from 0) that can't be (move, send of one that is nowhere; "
            + "move to where it is, or is not HELD; a ninth bed built; lines that can't be are left out)");
        edge.within("nothing can't be", impossible(VALE, "date ; move e b ; send f ; build c ;"), NONE);
        edge.beyond("move of one that is nowhere, the line 0", impossible(VALE, "move e b ;"), 0);
        edge.beyond("send of one that is nowhere", impossible(VALE, "date ; send g ; send g ;"), 1);
        edge.beyond("gone by DATES", impossible(VALE, "date ; date ; date ; date ; send e ;"), 4);
        edge.within("not yet gone", impossible(VALE, "date ; date ; date ; send e ;"), NONE);
        edge.beyond("sent off already", impossible(VALE, "date ; send e ; send e ;"), 2);
        edge.beyond("move to where it is", impossible(VALE, "date ; move e a ;"), 1);
        edge.beyond("where it is by another move", impossible(VALE, "date ; move e b ; move e b ;"), 2);
        edge.within("and back", impossible(VALE, "date ; move e b ; move e a ;"), NONE);
        edge.beyond("not HELD: f wants two", impossible(VALE, "date ; move f a ;"), 1);
        edge.beyond("not HELD: one free", impossible(VALE, "date ; move e b ; move f b ;"), 2);
        edge.within("HELD by a bed built", impossible(VALE, "date ; move e b ; build b ; move f b ;"), NONE);
        edge.beyond("not HELD: a clash", impossible("house a beds 2 ; house b beds 2 ; day c plain of a on 1 says 9 ; "
            + "day d plain of b on 1 says 9 ; clash c d ;", "date ; move c b ;"), 1);
        edge.within("a ninth, of nine at most", impossible(VALE, "build d ; build d ; build d ;"), NONE);
        edge.beyond("one beyond nine", impossible(VALE, "build d ; build d ; build d ; build d ;"), 3);
        edge.within("eight more make nine of one", impossible(VALE, "build a ; ".repeat(8)), NONE);
        edge.beyond("nine more", impossible(VALE, "build a ; ".repeat(9)), 8);
        edge.beyond("the last of forty lines", impossible(VALE, "date ; ".repeat(39) + "send g ;"), 39);
        DateVale out = edges.told("house a beds 1 ; house b beds 1 ; day c plain of a on 1 says 9 ; day d plain of b on 1 says 9 ; "
            + "day e plain of a on 2 says 9 ; stays 4 ; ");
        Bench.tellYear(out, "date ; move c b ; date ;");
        edge.beyond("the move can't be: d is in b", out.judged(0), 1);
        edge.beyond("left out: c is in a yet, and e is TURNED OFF", out.judged(2), 1);
        Bench.tellYear(out, "date ; send d ; move c b ; date ;");
        edge.within("it can be", out.judged(0), NONE);
        edge.within("e comes", out.judged(2), 0);
    }

    private void judgedBegin() {
        Edges.Edge edge = edges.of(12, "JUDGED: the YEAR from the begin");
        DateVale vale = edges.told("house a beds 1 ; day b plain of a on 1 says 9 ; day c plain of a on 1 says 9 ; ", 1);
        for (int beds = 2; beds <= 9; beds++) {
            vale.build(0);
        }
        Bench.tellYear(vale, "send b ; date ; ");
        int[] ahead = Edges.stateOf(vale);
        edge.within("b is nowhere at the begin", vale.judged(0), 0);
        edge.within("c is TURNED OFF: there is one bed at the begin", vale.judged(1), 1);
        edge.stays("JUDGED", vale, ahead);
        edge.beyond("now b is somewhere", vale.send(0), true);
        edge.beyond("now there are nine beds", vale.build(0), NONE);
        Bench.tellYear(vale, "build a ; ".repeat(8));
        edge.within("eight beds can be built at the begin", vale.judged(0), NONE);
        DateVale faded = edges.told("house a beds 1 ; day b plain of a on 1 says 1 ; ", 2);
        Bench.tellYear(faded, "date ; send b ;");
        edge.within("it has not FADED at the begin", faded.judged(0), NONE);
        edge.beyond("it has now", faded.count(8), 1);
    }

    private void judgedTurnedOff() {
        Edges.Edge edge = edges.of(12, "the first line by which one is TURNED OFF; how many are, together.");
        String text = "house a beds 1 ; day b plain of a on 1 says 9 ; day c plain of a on 1 says 9 ; day d plain of a on 2 says 9 ; stays 2 ; ";
        DateVale vale = edges.told(text);
        edge.beyond("no line", vale.judged(1), NONE);
        edge.beyond("none", vale.judged(2), 0);
        Bench.tellYear(vale, "date ;");
        edge.within("the line 0", vale.judged(1), 0);
        edge.within("c", vale.judged(2), 1);
        Bench.tellYear(vale, "date ; date ;");
        edge.within("the line 0 still", vale.judged(1), 0);
        edge.within("c and d", vale.judged(2), 2);
        Bench.tellYear(vale, "build a ; date ; date ;");
        edge.within("d, by the line 2", vale.judged(1), 2);
        edge.within("d alone", vale.judged(2), 1);
        Bench.tellYear(vale, "build a ; date ; send b ; date ;");
        edge.beyond("nobody", vale.judged(1), NONE);
        edge.beyond("none", vale.judged(2), 0);
        Bench.tellYear(vale, "date ; ".repeat(40));
        edge.within("c and d each year, on 1 and 2, 13 and 14, 25 and 26, 37 and 38", vale.judged(2), 8);
        DateVale three = edges.told(text + "day e big of a on 1 says 9 ; ");
        Bench.tellYear(three, "date ;");
        edge.within("two by one line", three.judged(2), 2);
        edge.within("the line 0", three.judged(1), 0);
    }

    private void judgedOthers() {
        Edges.Edge edge = edges.of(12, "JUDGED, what 0, 1: lines (NONE: none), 2: how many; -2: others.");
        DateVale vale = edges.told(VALE);
        Bench.tellYear(vale, "build c ; date ; date ; send g ; ");
        int[] want = {3, 1, 1};
        for (int what = 0; what < 3; what++) {
            edge.within("judged(" + what + ")", vale.judged(what), want[what]);
        }
        edge.beyond("judged(-1)", vale.judged(-1), -2);
        edge.beyond("judged(3)", vale.judged(3), -2);
        for (int far : FAR) {
            edge.beyond("judged(" + far + ")", vale.judged(far), -2);
        }
        edge.within("a YEAR of no lines", vale.year(), 0);
        int[] none = {NONE, NONE, 0};
        for (int what = 0; what < 3; what++) {
            edge.within("no lines, judged(" + what + ")", vale.judged(what), none[what]);
        }
    }
}
