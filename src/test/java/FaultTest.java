/** The language of VALES and YEARS: a ^ stands ahead of the token that the FAULT names. */
public final class FaultTest {
    private static final Bench BENCH = new Bench();

    /** Two HOUSES and two DAYS, for lines that need some told. */
    private static final String TOLD = "house hh beds 1 ; house ii beds 6 ; "
        + "day dd big of hh on 0 says 0 ; day ee leap of ii on 11 says 40 ; ";

    public static void main(String[] args) {
        tokens();
        houses();
        days();
        pairs();
        staysAndFades();
        laws();
        years();
        takenAndKept();
        BENCH.end("FaultTest");
    }

    private static void vale(int kind, String text) {
        String plain = text.replace("^", "");
        BENCH.due("vale() of " + text, Bench.tell(new DateVale(), plain), fault(kind, text));
    }

    private static void year(int kind, String text) {
        DateVale vale = new DateVale();
        BENCH.due("vale() of " + TOLD, Bench.tell(vale, TOLD), 0);
        BENCH.due("year() of " + text, Bench.tellYear(vale, text.replace("^", "")), fault(kind, text));
    }

    private static int fault(int kind, String text) {
        return kind == 0 ? 0 : kind + 16 * text.indexOf('^');
    }

    private static void tokens() {
        vale(0, "");
        vale(0, " \n \n");
        vale(0, "house\nabcdefgh\nbeds 0006;");
        vale(0, "house a beds 1;house b beds 2;lends a b;stays 2;");
        vale(0, "stays2;fades1+2*(3-4);");
        vale(0, "house a beds 3;day b plain of a on 1says 2;");
        vale(1, "house ^abcdefghi beds 1 ;");
        vale(1, "house a beds ^00001 ;");
        vale(1, "house ^A beds 1 ;");
        vale(1, "house a^_b beds 1 ;");
        vale(1, "house a ^1 beds 1 ;");
        vale(1, "^;");
        vale(1, "^7");
        vale(1, "^~");
        vale(1, "  ^abcdefghijklmnopqrstuvwxyz");
        vale(1, "stays 1 ; ^! house");
        vale(1, "stays 1 ^, house");
        vale(1, "^house1".replace("^house1", "house^1"));
        vale(1, "stays 3 ^");
        vale(1, "stays 3  \n  ^");
        vale(1, "stays 3^");
        vale(1, "stays^");
        vale(1, "^date ;");
        vale(1, "^hill");
    }

    private static void houses() {
        vale(1, "house ^beds");
        vale(1, "house ^; ");
        vale(1, "house ^12 ");
        for (String word : ("house beds lends day of on says clash stays fades date move send build "
                + "plain big early leap not and or").split(" ")) {
            vale(1, "house ^" + word + " beds 1 ;");
            vale(1, TOLD + "day ^" + word + " big of hh on 1 says 1 ;");
            vale(1, TOLD + "day ff big of ^" + word + " on 1 says 1 ;");
            vale(1, TOLD + "clash dd ^" + word + " ;");
            vale(1, TOLD + "lends ^" + word + " hh ;");
            year(1, "send ^" + word + " ;");
        }
        for (String word : "loud full month times a chair free".split(" ")) {
            vale(0, "house " + word + " beds 1 ;");
        }
        vale(1, "house a ^bed 1 ;");
        vale(1, "house a beds ^b ;");
        vale(1, "house a beds ^; ");
        vale(4, "house a beds ^0 ;");
        vale(4, "house a beds ^7 ;");
        vale(4, "house a beds ^9999 ;");
        vale(1, "house a beds 1 ^1 ;");
        vale(3, "house a beds 1 ; house ^a beds");
        vale(3, TOLD + "house ^dd");
        String four = "house a beds 1 ; house b beds 1 ; house c beds 1 ; house d beds 1 ; ";
        vale(0, four);
        vale(5, four + "^house");
        vale(5, four + "^house a beds 9 ;");
        vale(1, four + "^houses");
    }

    private static void days() {
        vale(1, TOLD + "day ^; ");
        vale(3, TOLD + "day ^dd big");
        vale(3, TOLD + "day ^hh big");
        vale(1, TOLD + "day ff ^small");
        vale(1, TOLD + "day ff ^of hh");
        vale(1, TOLD + "day ff big ^on");
        vale(2, TOLD + "day ff big of ^gg");
        vale(2, TOLD + "day ff big of ^ff");
        vale(2, TOLD + "day ff big of ^dd");
        vale(1, TOLD + "day ff big of hh ^of");
        vale(1, TOLD + "day ff big of hh on ^says");
        vale(4, TOLD + "day ff big of hh on ^12");
        vale(0, TOLD + "day ff plain of hh on 11 says 40 ;");
        vale(1, TOLD + "day ff plain of hh on 11 ^say 40 ;");
        vale(4, TOLD + "day ff early of hh on 11 says ^41 ;");
        vale(1, TOLD + "day ff early of hh on 11 says 4 ^");
        String six = TOLD + "day a plain of hh on 0 says 1 ; day b plain of hh on 0 says 1 ; "
            + "day c plain of hh on 0 says 1 ; day d plain of hh on 0 says 1 ; ";
        vale(0, six);
        vale(5, six + "^day");
        vale(5, six + "^day a small of nobody");
        vale(2, "day a plain of ^a on 0 says 1 ;");
    }

    private static void pairs() {
        vale(2, TOLD + "lends ^xx");
        vale(2, TOLD + "lends ^dd");
        vale(2, TOLD + "lends hh ^xx");
        vale(2, TOLD + "lends hh ^dd");
        vale(3, TOLD + "lends hh ^hh");
        vale(1, TOLD + "lends hh ^; ");
        vale(1, TOLD + "lends ^3");
        vale(1, TOLD + "lends hh ii ^ii");
        vale(3, TOLD + "lends hh ii ; lends hh ^ii");
        vale(3, TOLD + "lends hh ii ; lends ii ^hh");
        vale(2, TOLD + "clash ^xx");
        vale(2, TOLD + "clash ^hh");
        vale(2, TOLD + "clash dd ^hh");
        vale(3, TOLD + "clash dd ^dd");
        vale(3, TOLD + "clash dd ee ; clash ee ^dd");
        vale(3, TOLD + "clash dd ee ; clash dd ^ee");
        vale(1, TOLD + "clash dd ee ^");
        vale(2, "lends ^a");
        vale(2, "clash ^a");
        vale(0, TOLD + "house jj beds 1 ; lends hh ii ; lends ii jj ; lends jj hh ;");
    }

    private static void staysAndFades() {
        vale(4, "stays ^0 ;");
        vale(4, "stays ^5 ;");
        vale(0, "stays 1 ;");
        vale(0, "stays 4 ;");
        vale(1, "stays ^a ;");
        vale(3, "stays 1 ; ^stays 1 ;");
        vale(3, "fades 1 ; ^fades 1 ;");
        vale(0, "fades 1 ; stays 1 ;");
        vale(3, "fades 1 ; stays 1 ; ^stays");
    }

    private static void laws() {
        vale(1, "fades ^;");
        vale(1, "fades ^");
        vale(1, "fades ^says ;");
        vale(1, "fades ^and 1 ;");
        vale(1, "fades ^- 1 ;");
        vale(1, "fades 1 ^2 ;");
        vale(1, "fades 1 ^not 2 ;");
        vale(1, "fades 1 ^( 2 ) ;");
        vale(1, "fades 1 + ^;");
        vale(1, "fades 1 and ^or 2 ;");
        vale(1, "fades 1 < 2 ^< 3 ;");
        vale(1, "fades 1 = 2 ^< 3 ;");
        vale(1, "fades 1 < 2 + 3 ^= 3 ;");
        vale(0, "fades 1 < 2 and 3 = 4 or 5 < 6 ;");
        vale(0, "fades ( 1 < 2 ) < ( 3 = 4 ) ;");
        vale(0, "fades not loud * full - month + times ;");
        vale(1, "fades ( 1 ^;");
        vale(1, "fades 1 ^) ;");
        vale(1, "fades ( ^) ;");
        vale(1, "fades ( 1 < 2 ^< 3 ) ;");
        vale(1, "fades 1 * * 2 ;".replace("* *", "* ^*"));
        vale(0, "fades 9999 ;");
        vale(1, "fades ^10000 ;");
        vale(1, "fades ^loudness ;");
        vale(1, "fades not ^;");
        vale(0, "fades not not not not 1 ;");
        vale(5, "fades not not not not not ^1 ;");
        vale(5, "fades not not not not not ^loud ;");
        vale(5, "fades not not not not not ^not 1 ;");
        vale(5, "fades not not not not not ^( 1 ;");
        vale(1, "fades not not not not not ^; ");
        vale(1, "fades not not not not not ^says ; ");
        vale(0, "fades ((((1)))) ;");
        vale(5, "fades (((((^1))))) ;");
        vale(5, "fades (not(not(^1))) ;");
        vale(1, "fades (not(not(^) ;");
        vale(0, "fades (not(not 1)) ;");
        vale(5, "fades 1 + 2 * ((((not ^3)))) ;");
        vale(0, "fades ((((1 + 2 * 3 < 4 and 5)))) + ((((1)))) ;");
        vale(1, "fades 1 ; ^1");
    }

    private static void years() {
        year(0, "");
        year(0, "date ; move dd hh ; send dd ; build ii ;");
        year(0, "date;date;send ee;");
        year(1, "date ^date ;");
        year(1, "^house");
        year(1, "^;");
        year(1, "^xx");
        year(2, "move ^xx");
        year(2, "move ^hh");
        year(1, "move ^; ");
        year(1, "move dd ^; ");
        year(2, "move dd ^ee");
        year(2, "move dd ^xx");
        year(1, "move dd hh ^hh");
        year(2, "send ^hh ;");
        year(2, "send ^xx ;");
        year(1, "send ^1 ;");
        year(1, "send dd ^");
        year(2, "build ^dd ;");
        year(1, "build ^build ;");
        year(1, "build hh^");
        StringBuilder forty = new StringBuilder();
        for (int line = 0; line < 40; line++) {
            forty.append("date ; ");
        }
        year(0, forty.toString());
        year(5, forty + "^date");
        year(5, forty + "^move xx");
        year(5, forty + "^send");
        year(5, forty + "^build");
        year(1, forty + "^sends");
        year(1, forty + "^;");
        DateVale empty = new DateVale();
        BENCH.due("year() of no VALE", Bench.tellYear(empty, "date ;"), 0);
        BENCH.due("lines of it", empty.count(9), 1);
        BENCH.due("year() of nobody", Bench.tellYear(empty, "send dd ;"), 2 + 16 * 5);
    }

    /** What is read is taken off the TAPE, with a FAULT too; with a FAULT all else stays. */
    private static void takenAndKept() {
        DateVale vale = BENCH.told(TOLD + "stays 3 ; fades 0 - 2 ; lends hh ii ; clash dd ee ; ");
        BENCH.due("signs behind a VALE", vale.count(12), 0);
        BENCH.due("a YEAR", Bench.tellYear(vale, "date ; date ; date ;"), 0);
        Bench.dates(vale, 11);
        vale.see(0, 3);
        vale.mark(2, false);
        int[] ahead = stateOf(vale);
        String wrong = "house zz beds 6 ; day yy early of zz on 3 says 3 ; stays 1 ; fades 5 ; ";
        BENCH.due("a faulty VALE", Bench.tell(vale, wrong + "fades"), 3 + 16 * wrong.length());
        BENCH.due("signs behind a faulty VALE", vale.count(12), 0);
        BENCH.due("a faulty YEAR", Bench.tellYear(vale, "date ; send zz ;"), 2 + 16 * 12);
        BENCH.due("signs behind a faulty YEAR", vale.count(12), 0);
        int[] now = stateOf(vale);
        for (int at = 0; at < ahead.length; at++) {
            BENCH.due("kept behind a FAULT, " + at, now[at], ahead[at]);
        }
        BENCH.due("the MARK is kept", vale.mark(2, true), true);
        BENCH.due("a VALE of nothing", vale.vale(), 0);
        int[] nothing = {0, 0, 1, 0, 0, 0, 0, 0, 0, 0, 0, 0, 0};
        for (int what = 0; what < nothing.length; what++) {
            BENCH.due("count(" + what + ") of nothing", vale.count(what), nothing[what]);
        }
        BENCH.due("no MARK behind a VALE", vale.mark(2, true), false);
        BENCH.due("nothing undone behind a VALE", vale.undo(), false);
    }

    private static int[] stateOf(DateVale vale) {
        int[] state = new int[40];
        for (int what = 0; what < 13; what++) {
            state[what] = vale.count(what);
        }
        for (int what = 0; what < 8; what++) {
            state[13 + what] = vale.day(0, what);
            state[21 + what] = vale.day(1, what);
        }
        for (int what = 0; what < 5; what++) {
            state[29 + what] = vale.house(1, what);
        }
        for (int what = 0; what < 3; what++) {
            state[34 + what] = vale.judged(what);
        }
        state[37] = vale.gone(1);
        state[38] = vale.who();
        state[39] = vale.ages(7, 60, 2);
        return state;
    }
}
