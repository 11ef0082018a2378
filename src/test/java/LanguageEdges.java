/** Promises 3 and 4: the lines of a VALE and of a YEAR, their FAULTS, and what a FAULT leaves as it was. */
final class LanguageEdges {
    private static final String TOLD = "house hh beds 1 ; house ii beds 6 ; "
        + "day dd big of ii on 0 says 0 ; day ee leap of ii on 11 says 40 ; ";
    private static final String FOUR = "house a beds 1 ; house b beds 2 ; house c beds 5 ; house d beds 6 ; ";
    private static final String SIX = "house h beds 1 ; day a plain of h on 0 says 40 ; day b big of h on 1 says 39 ; "
        + "day c early of h on 2 says 2 ; day d leap of h on 9 says 1 ; day e big of h on 10 says 0 ; "
        + "day f big of h on 11 says 7 ; ";
    private static final String[] KEPT = ("house beds lends day of on says clash stays fades date move send build "
        + "plain big early leap not and or").split(" ");

    /** Where a NAME stands (#), behind TOLD: a new one; of a HOUSE; of a DAY. Those of a YEAR begin with >. */
    private static final String[] NEW = {"house # beds 1 ;", "day # big of hh on 1 says 1 ;"};
    private static final String[] OF_A_HOUSE = {
        "lends # hh ;", "lends hh # ;", "day ff big of # on 1 says 1 ;", ">move dd # ;", ">build # ;",
    };
    private static final String[] OF_A_DAY = {"clash # dd ;", "clash dd # ;", ">move # hh ;", ">send # ;"};

    private final Edges edges;

    LanguageEdges(Edges edges) {
        this.edges = edges;
    }

    void all() {
        anyNumber();
        houses();
        lends();
        days();
        clash();
        staysAndFades();
        lines();
        names();
        alike();
        place();
        firstWrong();
        kindOne();
        leftOut();
        kindTwo();
        kindThree();
        kindFour();
        kindFive();
        anew();
        yearAnew();
        valeStays();
        yearStays();
    }

    /** The line with the NAME in its place, ^ ahead of it, is refused. */
    private static void refused(Edges.Edge edge, int kind, String line, String name) {
        String marked = line.replace("#", "^" + name);
        if (marked.startsWith(">")) {
            edge.faultsYear(TOLD, kind, marked.substring(1));
        } else {
            edge.faults(kind, TOLD + marked);
        }
    }

    private static void taken(Edges.Edge edge, String line, String name) {
        String text = line.replace("#", name);
        if (text.startsWith(">")) {
            edge.tellsYear(TOLD, text.substring(1));
        } else {
            edge.tells(TOLD + text);
        }
    }

    private void anyNumber() {
        Edges.Edge edge = edges.of(3, "VALE: any number of");
        edge.tells("");
        edge.tells(" ");
        edge.tells("\n");
        edge.tells("stays 1 ;");
        StringBuilder all = new StringBuilder("stays 4;fades 0;");
        all.append("house a beds 6;house b beds 6;house c beds 6;house d beds 6;");
        for (String pair : "ab ac ad bc bd cd".split(" ")) {
            all.append("lends ").append(pair.charAt(1)).append(' ').append(pair.charAt(0)).append(';');
        }
        for (char day = 'e'; day <= 'j'; day++) {
            all.append("day ").append(day).append(" plain of a on 0says 40;");
        }
        for (char day = 'e'; day <= 'j'; day++) {
            for (char other = 'e'; other < day; other++) {
                all.append("clash ").append(day).append(' ').append(other).append(';');
            }
        }
        DateVale vale = edges.told(all.toString());
        for (int house = 0; house < 4; house++) {
            edge.within("every other one lends to " + house, vale.house(house, 3), 15 & ~(1 << house));
        }
        for (int day = 0; day < 6; day++) {
            edge.within("every other one clashes with " + day, vale.day(day, 7), 63 & ~(1 << day));
        }
        edge.tells("fades 1;stays 2;house a beds 1;day b big of a on 1says 1;house c beds 1;day d big of c on 1says 1;"
            + "clash d b;lends c a;");
        edge.faults(1, "^;");
        edge.faults(1, "stays 1 ; ^;");
        edge.faults(1, "stays 1 ^stays");
    }

    private void houses() {
        Edges.Edge edge = edges.of(3, "house: 4 at most, numbered as told; beds 1 to 6.");
        DateVale vale = edges.told(FOUR);
        int[] beds = {1, 2, 5, 6};
        for (int house = 0; house < 4; house++) {
            edge.within("beds of " + house, vale.house(house, 0), beds[house]);
        }
        edge.within("four", vale.count(0), 4);
        edge.beyond("no fifth", vale.house(4, 0), -2);
        edge.faults(5, FOUR + "^house e beds 1 ;");
        for (int told = 1; told <= 6; told++) {
            edge.tells("house a beds " + told + " ;");
        }
        edge.faults(4, "house a beds ^0 ;");
        edge.faults(4, "house a beds ^7 ;");
        edge.faults(4, "house a beds ^10 ;");
        edge.faults(4, "house a beds ^9999 ;");
    }

    private void lends() {
        Edges.Edge edge = edges.of(3, "lends: two HOUSES told, not the same, each pair once (each lends to the other).");
        DateVale vale = edges.told(FOUR + "lends d a ; lends b d ; ");
        int[] lenders = {8, 8, 0, 3};
        for (int house = 0; house < 4; house++) {
            edge.within("who lends to " + house, vale.house(house, 3), lenders[house]);
        }
        edge.tells(FOUR + "lends a b ; lends b c ; lends a c ;");
        edge.faults(3, FOUR + "lends a ^a ;");
        edge.faults(3, FOUR + "lends d ^d ;");
        edge.faults(3, FOUR + "lends a b ; lends a ^b ;");
        edge.faults(3, FOUR + "lends a b ; lends b ^a ;");
        edge.faults(3, FOUR + "lends a b ; lends c d ; lends d ^c ;");
        edge.tells("house a beds 1 ; house b beds 1 ; lends b a ;");
        edge.faults(2, "house a beds 1 ; lends a ^b ; house b beds 1 ;");
        edge.faults(2, "house a beds 1 ; lends ^b a ; house b beds 1 ;");
    }

    private void days() {
        Edges.Edge edge = edges.of(3, "day: 6 at most, numbered as told");
        DateVale vale = edges.told(SIX);
        int[][] told = {{0, 0, 40}, {1, 1, 39}, {2, 2, 2}, {3, 9, 1}, {1, 10, 0}, {1, 11, 7}};
        for (int day = 0; day < 6; day++) {
            edge.within("KIND of " + day, vale.day(day, 0), told[day][0]);
            edge.within("date of " + day, vale.day(day, 2), told[day][1]);
            edge.within("what it says " + day, vale.day(day, 3), told[day][2]);
        }
        edge.within("six", vale.count(1), 6);
        edge.beyond("no seventh", vale.day(6, 0), -2);
        edge.faults(5, SIX + "^day g plain of h on 0 says 1 ;");
        Edges.Edge kinds = edges.of(3, "KIND: plain, big, early, leap");
        for (String kind : "plain big early leap".split(" ")) {
            kinds.tells(TOLD + "day ff " + kind + " of hh on 1 says 1 ;");
            kinds.faults(1, TOLD + "day ff ^" + kind + "s of hh on 1 says 1 ;");
            kinds.faults(1, TOLD + "day ff ^" + kind.substring(1) + " of hh on 1 says 1 ;");
            kinds.faults(1, TOLD + "day ff ^of hh on 1 says 1 ;");
            kinds.faults(1, TOLD + "day ff " + kind + " ^" + kind + " of hh on 1 says 1 ;");
        }
        Edges.Edge numbers = edges.of(3, "of a HOUSE told, on the date 0 to 11, says 0 to 40.");
        String line = TOLD + "day ff big of hh on %s says %s ;";
        for (int on = 0; on < 12; on++) {
            numbers.tells(String.format(line, on, on));
        }
        numbers.tells(String.format(line, 11, 40));
        numbers.faults(4, String.format(line, "^12", 0));
        numbers.faults(4, String.format(line, "^0012", 0));
        numbers.faults(4, String.format(line, "^9999", 0));
        numbers.faults(4, String.format(line, 0, "^41"));
        numbers.faults(4, String.format(line, 0, "^9999"));
        numbers.faults(1, String.format(line, "^-1", 0));
        numbers.faults(2, "day ff big of ^hh on 0 says 0 ; house hh beds 1 ;");
        numbers.tells("house hh beds 1 ; day ff big of hh on 0 says 0 ;");
    }

    private void clash() {
        Edges.Edge edge = edges.of(3, "clash: two DAYS told, not the same, each pair once.");
        DateVale vale = edges.told(SIX + "clash f a ; clash b f ; ");
        int[] foes = {32, 32, 0, 0, 0, 3};
        for (int day = 0; day < 6; day++) {
            edge.within("FOES of " + day, vale.day(day, 7), foes[day]);
        }
        edge.tells(SIX + "clash a b ; clash b c ; clash c a ;");
        edge.faults(3, SIX + "clash a ^a ;");
        edge.faults(3, SIX + "clash f ^f ;");
        edge.faults(3, SIX + "clash a b ; clash a ^b ;");
        edge.faults(3, SIX + "clash a b ; clash b ^a ;");
        edge.faults(3, SIX + "clash a b ; clash c d ; clash d ^c ;");
        String early = "house h beds 1 ; day a plain of h on 0 says 1 ; ";
        String late = "day b plain of h on 0 says 1 ; ";
        edge.tells(early + late + "clash a b ;");
        edge.faults(2, early + "clash a ^b ; " + late);
        edge.faults(2, early + "clash ^b a ; " + late);
    }

    private void staysAndFades() {
        Edges.Edge edge = edges.of(3, "stays 1 to 4 (1).");
        for (int stays = 1; stays <= 4; stays++) {
            edge.within("stays " + stays, edges.told("stays " + stays + " ;").count(2), stays);
        }
        edge.within("not told", edges.told("").count(2), 1);
        DateVale again = edges.told("stays 3 ;");
        edge.within("not told any more", Bench.tell(again, "house a beds 1 ;") + again.count(2), 1);
        edge.faults(4, "stays ^0 ;");
        edge.faults(4, "stays ^5 ;");
        edge.faults(4, "stays ^14 ;");
        Edges.Edge once = edges.of(3, "stays, fades: once each.");
        once.tells("stays 1 ; fades 1 ;");
        once.tells("fades 1 ; stays 1 ;");
        once.faults(3, "stays 1 ; ^stays 2 ;");
        once.faults(3, "fades 1 ; ^fades 2 ;");
        once.faults(3, "stays 1 ; fades 1 ; ^stays 1 ;");
        once.faults(3, "fades 1 ; stays 1 ; ^fades 1 ;");
        DateVale vale = edges.told("stays 2 ; fades 1 ;");
        once.within("in another VALE again", Bench.tell(vale, "fades 1 ; stays 2 ;"), 0);
        once.beyond("a FAULT behind stays", Bench.tell(vale, "stays 3 ; fades"), 1 + 16 * 15);
        once.within("and again", Bench.tell(vale, "stays 3 ; fades 2 ;"), 0);
    }

    private void lines() {
        Edges.Edge edge = edges.of(4, "YEAR: any number of date ; move NAME NAME ; send NAME ; build NAME ; "
            + "(a DAY to a HOUSE; a DAY; a HOUSE), 40 lines at most.");
        String[] lines = {"date ; ", "move dd hh ; ", "send ee ; ", "build ii ; "};
        edge.tellsYear(TOLD, "");
        edge.tellsYear(TOLD, " \n ");
        for (String line : lines) {
            edge.tellsYear(TOLD, line);
            edge.tellsYear(TOLD, line.repeat(39));
            edge.tellsYear(TOLD, line.repeat(40));
            edge.faultsYear(TOLD, 5, line.repeat(40) + "^" + line);
            DateVale vale = edges.told(TOLD);
            edge.within("forty lines", Bench.tellYear(vale, line.repeat(40)) + vale.count(9), 40);
        }
        edge.faultsYear(TOLD, 1, "^;");
        edge.faultsYear(TOLD, 1, "date ; ^stays 1 ;");
        edge.faultsYear(TOLD, 2, "move ^hh dd ;");
        edge.faultsYear(TOLD, 2, "send ^hh ;");
        edge.faultsYear(TOLD, 2, "build ^dd ;");
    }

    private void names() {
        Edges.Edge edge = edges.of(3, "A NAME is another WORD than house, beds, lends, day, of, on, says, clash, stays, fades, "
            + "date, move, send, build, the KINDS, not, and, or");
        for (String word : KEPT) {
            for (String[] places : new String[][] {NEW, OF_A_HOUSE, OF_A_DAY}) {
                for (String line : places) {
                    refused(edge, 1, line, word);
                }
            }
            edge.tells("house " + word + "x beds 1 ; day x" + word + " big of " + word + "x on 1 says 1 ;");
            edge.tells("house " + (word.length() > 2 ? word.substring(0, word.length() - 1) : "o") + " beds 1 ;");
        }
        for (String word : "loud full month times vale year free who".split(" ")) {
            edge.tells("house " + word + " beds 1 ; day x" + " big of " + word + " on 1 says 1 ;");
            edge.tells("house x beds 1 ; day " + word + " big of x on 1 says 1 ;");
        }
    }

    private void alike() {
        Edges.Edge edge = edges.of(3, "no two (HOUSES, DAYS) are alike");
        for (String line : NEW) {
            refused(edge, 3, line, "hh");
            refused(edge, 3, line, "ii");
            refused(edge, 3, line, "dd");
            refused(edge, 3, line, "ee");
            taken(edge, line, "h");
            taken(edge, line, "hhh");
            taken(edge, line, "ff");
        }
        edge.faults(2, "house a beds 1 ; day b big of ^b on 1 says 1 ;");
        String[] near = "a b z aa ab ba bb az za zz aaa baa aab zza zaaaaaaa aaaaaaaz zzzzzzz zzzzzzzz".split(" ");
        for (String name : near) {
            for (String other : near) {
                if (name.equals(other)) {
                    edge.faults(3, "house " + name + " beds 1 ; house ^" + other + " beds 1 ;");
                } else {
                    edge.tells("house " + name + " beds 1 ; house " + other + " beds 1 ; lends " + other + " " + name + " ;");
                }
            }
        }
    }

    private void place() {
        Edges.Edge edge = edges.of(3, "FAULTS, kind + 16 * the place (from 0) of a token, the end being one at the text's length");
        edge.tells("stays 1 ;");
        edge.faults(1, "^stay");
        edge.faults(1, " ^stay");
        edge.faults(1, "\n\n^stay");
        edge.faults(1, "stays^");
        edge.faults(1, "stays ^");
        edge.faults(1, "stays 1^");
        edge.faults(1, "stays 1  \n ^");
        edge.faults(1, " ".repeat(999) + "^;");
        edge.faults(1, " ".repeat(993) + "stays 1^");
        edge.faults(1, " ".repeat(992) + "stays 1 ^");
        edge.faultsYear(TOLD, 1, "date^");
        edge.faultsYear(TOLD, 1, "date ; send dd  ^");
        edge.faultsYear(TOLD, 1, "^stays");
    }

    private void firstWrong() {
        Edges.Edge edge = edges.of(3, "of the first token from the left that is wrong the least");
        edge.tells("house a beds 6 ;");
        edge.faults(4, "house a beds ^7 7 house house");
        edge.faults(3, "house a beds 1 ; house ^a beds 7 ; ~");
        edge.faults(2, "lends ^a a ;");
        edge.faults(5, FOUR + "^house house beds 7 ;");
        edge.faults(1, "stays 1 ^stays");
        edge.faults(1, "fades 1 ^fades");
        edge.faults(1, FOUR + "stays 1 ^house");
        edge.faults(1, SIX + "stays 1 ^day");
        edge.faults(1, TOLD + "lends hh ^house");
        edge.faults(1, TOLD + "house hx ^hh");
        edge.faults(1, "stays ^00005 ;");
        edge.faults(1, "fades not not not not not ^;");
        edge.faults(1, "fades not not not not not ^beds");
        edge.faults(1, "fades not not not not not ^99999");
        edge.faults(1, "fades not not not not not ^");
        edge.faultsYear(TOLD, 1, "date ; ".repeat(40) + "^;");
        edge.faultsYear(TOLD, 1, "date ; ".repeat(40) + "^dates");
        edge.faultsYear(TOLD, 1, "date ; ".repeat(40) + "^house");
        edge.faultsYear(TOLD, 1, "date ; ".repeat(39) + "date ^date");
        edge.faultsYear(TOLD, 5, "date ; ".repeat(40) + "^send hh ;");
    }

    /** Every line, cut behind each of its tokens, and with a token that can't stand in the place of each. */
    private void kindOne() {
        Edges.Edge edge = edges.of(3, "1 it is none, or can't stand there");
        String[] lines = {
            "house jj beds 6 ;", "lends hh ii ;", "day ff leap of ii on 11 says 40 ;", "clash dd ee ;", "stays 4 ;",
            "fades ( 1 ) ;", ">date ;", ">move dd hh ;", ">send ee ;", ">build ii ;",
        };
        for (String line : lines) {
            taken(edge, line, "");
            String bare = line.startsWith(">") ? line.substring(1) : line;
            String year = line.startsWith(">") ? ">" : "";
            String[] tokens = bare.split(" ");
            StringBuilder ahead = new StringBuilder();
            for (int at = 0; at < tokens.length; at++) {
                boolean first = at == 0;
                for (String wrong : new String[] {"?", ")", year.isEmpty() ? "date" : "stays", "123456", "ninesigns", ""}) {
                    boolean fine = first && wrong.isEmpty() || wrong.equals(tokens[at]);
                    if (!fine) {
                        refused(edge, 1, year + ahead + "#", wrong);
                    }
                }
                ahead.append(tokens[at]).append(' ');
            }
        }
    }

    /** Every line with one of its tokens left out: what stands in its place can't. */
    private void leftOut() {
        Edges.Edge edge = edges.of(3, "can't stand there");
        for (String line : new String[] {
            "house ^beds 6 ;", "house jj ^6 ;", "house jj beds ^;", "lends ^;", "lends hh ^;", "day ^leap of ii on 11 says 40 ;",
            "day ff ^of ii on 11 says 40 ;", "day ff leap ^ii on 11 says 40 ;", "day ff leap of ^on 11 says 40 ;",
            "day ff leap of ii ^11 says 40 ;", "day ff leap of ii on ^says 40 ;", "day ff leap of ii on 11 ^40 ;",
            "day ff leap of ii on 11 says ^;", "clash ^;", "clash dd ^;", "stays ^;", "fades ^;", "^hh beds 6 ;", "^6 ;", "^( 1 ) ;",
            "house jj beds 6 ^stays 1 ;", "lends hh ii ^stays 1 ;", "day ff leap of ii on 11 says 40 ^stays 1 ;",
            "clash dd ee ^stays 1 ;", "stays 1 ^house jj beds 1 ;", "fades 1 ^stays 1 ;",
        }) {
            edge.faults(1, TOLD + line);
        }
        for (String line : new String[] {
            "^;", "^dd hh ;", "move ^;", "move dd ^;", "send ^;", "build ^;", "date ^date ;", "move dd hh ^date ;", "send dd ^date ;",
            "build hh ^date ;",
        }) {
            edge.faultsYear(TOLD, 1, line);
        }
        edge.tells(TOLD + "house jj beds 6 ; lends hh ii ; day ff leap of ii on 11 says 40 ; clash dd ee ; stays 1 ; fades 1 ;");
        edge.tellsYear(TOLD, "date ; move dd hh ; send dd ; build hh ;");
    }

    private void kindTwo() {
        Edges.Edge edge = edges.of(3, "2 a NAME of no HOUSE (behind lends, its second, of, the second of move, behind build), "
            + "of no DAY (behind clash, its second, move, send) told");
        for (String line : OF_A_HOUSE) {
            taken(edge, line, "ii");
            for (String name : new String[] {"dd", "ee", "h", "hhh", "xx", "ff", "loud"}) {
                refused(edge, 2, line, name);
            }
        }
        for (String line : OF_A_DAY) {
            taken(edge, line, "ee");
            for (String name : new String[] {"hh", "ii", "d", "ddd", "xx", "times"}) {
                refused(edge, 2, line, name);
            }
        }
        DateVale vale = edges.told(TOLD);
        edge.beyond("HOUSES of the VALE ahead are not told in another", Bench.tell(vale, "lends hh ii ;"), 2 + 16 * 6);
        edge.beyond("nor are its DAYS", Bench.tell(vale, "clash dd ee ;"), 2 + 16 * 6);
        edge.within("a YEAR is of the VALE that is", Bench.tellYear(vale, "move ee hh ;"), 0);
        String wrong = "house zz beds 1 ; day yy big of zz on 1 says 1 ; ^;";
        edge.beyond("a VALE with a FAULT", Bench.tell(vale, Edges.plain(wrong)), Edges.fault(1, wrong));
        edge.beyond("tells no HOUSE", Bench.tellYear(vale, "build zz ;"), 2 + 16 * 6);
        edge.beyond("tells no DAY", Bench.tellYear(vale, "send yy ;"), 2 + 16 * 5);
        edge.within("the one ahead is still told", Bench.tellYear(vale, "send dd ; build hh ;"), 0);
        edge.within("another VALE", Bench.tell(vale, "house zz beds 1 ;"), 0);
        edge.beyond("the one ahead is told no more", Bench.tellYear(vale, "build hh ;"), 2 + 16 * 6);
        edge.within("the other one is", Bench.tellYear(vale, "build zz ;"), 0);
    }

    private void kindThree() {
        Edges.Edge edge = edges.of(3, "3 a NAME told already; the second one of lends, clash that is the first one, "
            + "or of a pair told; stays, fades a second time");
        edge.tells(TOLD + "house jj beds 1 ; day ff big of jj on 1 says 1 ; lends jj hh ; lends hh ii ; clash ff ee ; clash ee dd ;");
        edge.faults(3, TOLD + "house ^ii");
        edge.faults(3, TOLD + "house ^ee");
        edge.faults(3, TOLD + "day ^hh");
        edge.faults(3, TOLD + "day ^dd");
        edge.faults(3, TOLD + "lends ii ^ii");
        edge.faults(3, TOLD + "clash ee ^ee");
        edge.faults(3, TOLD + "lends hh ii ; lends hh ^ii");
        edge.faults(3, TOLD + "lends ii hh ; lends hh ^ii");
        edge.faults(3, TOLD + "clash dd ee ; clash dd ^ee");
        edge.faults(3, TOLD + "clash ee dd ; clash dd ^ee");
        edge.faults(3, "stays 1 ; ^stays");
        edge.faults(3, "fades 1 ; ^fades");
    }

    private void kindFour() {
        Edges.Edge edge = edges.of(3, "4 a NUMBER that is not as told");
        String[][] lines = {
            {"house jj beds ", " ;", "1", "6", "0", "7"}, {"stays ", " ;", "1", "4", "0", "5"},
            {"day ff big of hh on ", " says 0 ;", "0", "11", "12", "9999"},
            {"day ff big of hh on 0 says ", " ;", "0", "40", "41", "9999"},
        };
        for (String[] line : lines) {
            edge.tells(TOLD + line[0] + line[2] + line[1]);
            edge.tells(TOLD + line[0] + line[3] + line[1]);
            edge.tells(TOLD + line[0] + "0" + line[3] + line[1]);
            edge.faults(4, TOLD + line[0] + "^" + line[4] + line[1]);
            edge.faults(4, TOLD + line[0] + "^" + line[5] + line[1]);
            edge.faults(4, TOLD + line[0] + "^" + line[4]);
        }
    }

    private void kindFive() {
        Edges.Edge edge = edges.of(3, "5 one too many: the words house of a fifth, day of a seventh, "
            + "the first word of a 41st line of a YEAR; not, or a PART, within 5 others.");
        edge.tells(FOUR);
        edge.faults(5, FOUR + "^house");
        edge.faults(5, FOUR + "stays 1 ; ^house a beds 0");
        edge.tells(SIX);
        edge.faults(5, SIX + "^day");
        edge.faults(5, SIX + "stays 1 ; ^day a small");
        edge.tells(FOUR + SIX.substring(SIX.indexOf(';') + 2).replace("of h", "of a").replace("day ", "day x"));
        String forty = "date ; ".repeat(40);
        edge.tellsYear(TOLD, forty);
        for (String word : "date move send build".split(" ")) {
            edge.faultsYear(TOLD, 5, forty + "^" + word);
        }
        edge.tells("fades not not not not 1 ;");
        edge.faults(5, "fades not not not not not ^1 ;");
        edge.tells("fades not not not not loud ;");
        edge.faults(5, "fades not not not not not ^loud ;");
        edge.tells("fades not not not ( 1 ) ;");
        edge.faults(5, "fades not not not not ( ^1 ) ;");
        edge.faults(5, "fades not not not not not ^not 1 ;");
        edge.faults(5, "fades not not not not not ^( 1 ) ;");
        edge.faults(5, "fades ( ( ( ( ( ^not 1 ) ) ) ) ) ;");
    }

    private void anew() {
        Edges.Edge edge = edges.of(3, "Without a FAULT a VALE is the VALE from then on: date 0 of the year 0 has come, without any DAY, "
            + "nobody has been turned off, nothing built, no YEAR, nothing SEEN, nothing can be undone, no MARK is there.");
        String text = "house a beds 1 ; house b beds 2 ; day c plain of a on 0 says 9 ; day d plain of a on 0 says 9 ; stays 2 ; ";
        DateVale vale = busy(text);
        int[] busy = {2, 2, 2, 1, 1, 1, 4, 1, 0, 2, 1, 14, 0};
        int[] fresh = {2, 2, 2, 0, 0, 0, 3, 0, 0, 0, 0, 0, 0};
        for (int what = 0; what < 13; what++) {
            edge.beyond("ahead, count(" + what + ")", vale.count(what), busy[what]);
        }
        edge.beyond("with a FAULT", Bench.tell(vale, text + ";"), 1 + 16 * text.length());
        for (int what = 0; what < 13; what++) {
            edge.beyond("behind a FAULT, count(" + what + ")", vale.count(what), busy[what]);
        }
        edge.beyond("c is there for 1", vale.day(0, 5), 1);
        edge.within("the same text without a FAULT", Bench.tell(vale, text), 0);
        for (int what = 0; what < 13; what++) {
            edge.within("count(" + what + ")", vale.count(what), fresh[what]);
        }
        edge.within("nothing can be undone", vale.undo(), false);
        for (int mark = 0; mark < 4; mark++) {
            edge.within("no MARK " + mark, vale.mark(mark, true), false);
        }
        for (int day = 0; day < 2; day++) {
            int[] told = {0, 0, 0, 9, -1, 0, 0, 0};
            for (int what = 0; what < 8; what++) {
                edge.within("day(" + day + ", " + what + ")", vale.day(day, what), told[what]);
            }
        }
        edge.within("nothing built", vale.house(1, 0), 2);
        edge.within("WHO, of nothing SEEN", vale.who(), 3);
        edge.within("JUDGED, of no YEAR", vale.judged(2), 0);
        Bench.dates(vale, 11);
        edge.within("the date 0 had come: nobody till 11", vale.count(5), 0);
        edge.within("c on the next date 0", vale.date(), 1);
    }

    /** Its date is 1 of the year 1: c is there for 1, d was TURNED OFF, b has a bed more; one SEEN, MARKS, a YEAR of two lines. */
    private DateVale busy(String text) {
        DateVale vale = edges.told(text, 13);
        vale.build(1);
        vale.see(0, 0);
        Bench.tellYear(vale, "date ; build a ;");
        for (int mark = 0; mark < 4; mark++) {
            vale.mark(mark, false);
        }
        return vale;
    }

    private void yearAnew() {
        Edges.Edge edge = edges.of(4, "A YEAR is the YEAR.");
        DateVale vale = edges.told(TOLD);
        edge.within("two lines", Bench.tellYear(vale, "send dd ; date ;") + vale.count(9), 2);
        edge.within("the first can't be", vale.judged(0), 0);
        edge.beyond("a FAULT", Bench.tellYear(vale, "date ; date ; date ; send hh ;"), 2 + 16 * 26);
        edge.beyond("two lines still", vale.count(9), 2);
        edge.beyond("the first can't be, still", vale.judged(0), 0);
        edge.within("another one", Bench.tellYear(vale, "date ; date ; send ee ;") + vale.count(9), 3);
        edge.within("the third can't be", vale.judged(0), 2);
        edge.within("one of no lines", vale.year() + vale.count(9), 0);
        edge.within("nothing that can't be", vale.judged(0), -1);
    }

    private void valeStays() {
        Edges.Edge edge = edges.of(3, "0, or its FAULT (all stays then)");
        String four = "house a beds 1;house b beds 1;house c beds 1;house d beds 1;";
        String[] wrong = {
            four + "^;", four + "day e big of ^x", four + "stays 4;fades 9;lends a b;lends b ^a", four + "stays ^5", four + "^house",
        };
        for (int at = 0; at < wrong.length; at++) {
            DateVale vale = busyVale();
            int[] ahead = Edges.stateOf(vale);
            edge.beyond("vale() of " + wrong[at], Bench.tell(vale, Edges.plain(wrong[at])), Edges.fault(at + 1, wrong[at]));
            edge.stays("vale() of " + wrong[at], vale, ahead);
            edge.within("UNDO is there", vale.undo(), true);
            edge.within("the bed is undone", vale.house(1, 0), 6);
            edge.within("the MARK is there", vale.mark(2, true), true);
            edge.within("its date", vale.count(4), 1);
        }
        DateVale vale = busyVale();
        edge.within("0", Bench.tell(vale, four), 0);
        edge.within("it is the VALE", vale.count(0), 4);
    }

    /** Its date is 2: dd is in ii, which has a bed more; one SEEN, a MARK of the date 1, a YEAR of four lines. */
    private DateVale busyVale() {
        DateVale vale = edges.told(TOLD.replace("on 0 says 0", "on 1 says 3")
            + "lends hh ii ; clash dd ee ; stays 3 ; fades 0 - full ; ", 1);
        vale.see(1, 0);
        vale.mark(2, false);
        Bench.tellYear(vale, "date ; date ; send ee ; build hh ;");
        vale.date();
        vale.build(1);
        return vale;
    }

    private void yearStays() {
        Edges.Edge edge = edges.of(4, "The TAPE is read as a YEAR, likewise.");
        String forty = "date ; ".repeat(40);
        String[] wrong = {"date ; ^~", "date ; date^", "date ; send ^hh ;", "move dd ^dd ;", forty + "^date ;"};
        int[] kinds = {1, 1, 2, 2, 5};
        for (int at = 0; at < wrong.length; at++) {
            DateVale vale = busyVale();
            int[] ahead = Edges.stateOf(vale);
            edge.beyond("year() of " + wrong[at], Bench.tellYear(vale, Edges.plain(wrong[at])), Edges.fault(kinds[at], wrong[at]));
            edge.stays("year() of " + wrong[at], vale, ahead);
            edge.within("UNDO is there", vale.undo(), true);
            edge.within("the MARK is there", vale.mark(2, true), true);
        }
        DateVale vale = busyVale();
        edge.within("0", Bench.tellYear(vale, "date ;"), 0);
        edge.within("it is the YEAR", vale.count(9), 1);
        edge.within("the VALE is as ahead", vale.count(4), 2);
        edge.within("what can be undone, too", vale.undo(), true);
        edge.within("the YEAR is not undone", vale.count(9), 1);
    }
}
