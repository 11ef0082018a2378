/** Promises 3 and 7: the E of fades, what can stand in it, and how much more one says by it. */
final class LawEdges {
    /** 2147483647, of NUMBERS of four digits. */
    private static final String GREATEST = "( 9999 * 9999 * 21 + 9999 * 4790 + 8416 )";

    private final Edges edges;

    LawEdges(Edges edges) {
        this.edges = edges;
    }

    void all() {
        tests();
        sums();
        parts();
        depth();
        facts();
        truth();
        wraps();
        without();
        more();
    }

    /** How much more one says by a law that says 20 and comes on the date 3, alone. */
    private int more(String law) {
        DateVale vale = edges.told("house a beds 6 ; day b plain of a on 3 says 20 ; fades " + law + " ;", 3);
        return vale.day(0, 3) - 20;
    }

    private void tests() {
        Edges.Edge edge = edges.of(3, "E: TEST { and TEST or or TEST }, from the left");
        edge.within("1 or 0 and 0", more("1 or 0 and 0"), 0);
        edge.within("0 and 0 or 1", more("0 and 0 or 1"), 1);
        edge.within("1 or ( 0 and 0 )", more("1 or ( 0 and 0 )"), 1);
        edge.within("0 or 1 and 1 or 0 and 1", more("0 or 1 and 1 or 0 and 1"), 1);
        edge.within("1 = 1 and 2 < 3", more("1 = 1 and 2 < 3"), 1);
        edge.within("a TEST alone is what it is", more("7"), 7);
        edge.faults(1, "fades ^and 1 ;");
        edge.faults(1, "fades ^or 1 ;");
        edge.faults(1, "fades 1 and ^;");
        edge.faults(1, "fades 1 or ^;");
        edge.faults(1, "fades 1 and ^and 1 ;");
        edge.faults(1, "fades 1 or ^or 1 ;");
        edge.faults(1, "fades 1 ^1 ;");
        edge.faults(1, "fades 1 and^");
        Edges.Edge test = edges.of(3, "TEST: SUM, or SUM < SUM, or SUM = SUM");
        test.within("2 < 3", more("2 < 3"), 1);
        test.within("3 < 3", more("3 < 3"), 0);
        test.within("4 < 3", more("4 < 3"), 0);
        test.within("2 = 3", more("2 = 3"), 0);
        test.within("3 = 3", more("3 = 3"), 1);
        test.within("4 = 3", more("4 = 3"), 0);
        test.within("1 + 1 = 4 - 2", more("1 + 1 = 4 - 2"), 1);
        test.within("( 1 < 2 ) < ( 3 = 3 ) + 1", more("( 1 < 2 ) < ( 3 = 3 ) + 1"), 1);
        for (String pair : new String[] {"< <", "< =", "= <", "= ="}) {
            String[] both = pair.split(" ");
            test.faults(1, "fades 1 " + both[0] + " 2 ^" + both[1] + " 3 ;");
            test.faults(1, "fades 1 " + both[0] + " ^" + both[1] + " 3 ;");
        }
        test.faults(1, "fades ^< 1 ;");
        test.faults(1, "fades ^= 1 ;");
        test.faults(1, "fades 1 < ^;");
        test.faults(1, "fades 1 = ^and 1 ;");
    }

    private void sums() {
        Edges.Edge edge = edges.of(3, "SUM: PRODUCT { + or - PRODUCT }; PRODUCT: PART { * PART }");
        edge.within("8 - 3 - 2", more("8 - 3 - 2"), 3);
        edge.within("8 - ( 3 - 2 )", more("8 - ( 3 - 2 )"), 7);
        edge.within("8 - 3 + 2", more("8 - 3 + 2"), 7);
        edge.within("1 + 2 * 3", more("1 + 2 * 3"), 7);
        edge.within("2 * 3 + 1", more("2 * 3 + 1"), 7);
        edge.within("( 1 + 2 ) * 2", more("( 1 + 2 ) * 2"), 6);
        edge.within("2 * 2 * 2", more("2 * 2 * 2"), 8);
        edge.faults(1, "fades ^+ 1 ;");
        edge.faults(1, "fades ^- 1 ;");
        edge.faults(1, "fades ^* 1 ;");
        edge.faults(1, "fades 1 + ^;");
        edge.faults(1, "fades 1 - ^- 1 ;");
        edge.faults(1, "fades 1 * ^;");
        edge.faults(1, "fades 1 * ^* 1 ;");
    }

    private void parts() {
        Edges.Edge edge = edges.of(3, "PART: a NUMBER, a fact, not PART, ( E )");
        for (String part : "0|9999|loud|full|month|times|not 1|not loud|( 1 )|( 1 and 2 or 3 < 4 + 5 * 6 )|not ( not 1 )".split("\\|")) {
            edge.tells("fades " + part + " ;");
            edge.tells("fades 1 + " + part + " * " + part + " = " + part + " and " + part + " ;");
            edge.faults(1, "fades " + part + " ^" + (part.startsWith("not") ? "not" : part.startsWith("(") ? "(" : part) + " ;");
        }
        for (String word : "house beds lends day of on says clash stays fades date move send build plain big early leap a loudly".split(" ")) {
            edge.faults(1, "house a beds 1 ; fades ^" + word + " ;");
            edge.faults(1, "house a beds 1 ; fades not ^" + word + " ;");
        }
        edge.within("not holds for the PART behind it alone", more("not 0 + 4"), 5);
        edge.within("not 0 * 5", more("not 0 * 5"), 5);
        edge.faults(1, "fades ^) ;");
        edge.faults(1, "fades ( ^) ;");
        edge.faults(1, "fades ( 1 ^;");
        edge.faults(1, "fades ( 1^");
        edge.faults(1, "fades ( 1 ) ^) ;");
        edge.faults(1, "fades not ^;");
        edge.faults(1, "fades ^;");
        edge.faults(1, "fades^");
    }

    /** Each mix of not and ( ): a PART within four of them, and within five. */
    private void depth() {
        Edges.Edge edge = edges.of(3, "no PART lies within 5 of not and ( )");
        for (int mix = 0; mix < 32; mix++) {
            edge.tells("fades " + wrapped("1", mix, 4) + " ;");
            edge.tells("fades " + wrapped("times", mix, 4) + " ;");
            for (String part : new String[] {"^1", "^times", "^not 1", "^( 1 )"}) {
                edge.faults(5, "fades " + wrapped(part, mix, 5) + " ;");
            }
            edge.faults(5, "fades 1 + 2 * ( " + wrapped("^1", mix, 4) + " ) ;");
        }
        edge.tells("fades ((((1)))) + ((((1)))) * not not not not 1 and ((((1)))) < not not not not 1 ;");
        edge.tells("fades ((((1 + 1 * 1 < 1 and 1 or 1)))) ;");
        edge.faults(5, "fades ((((1)))) + (((((^1))))) ;");
        edge.faults(5, "fades ((((1 + not ^1)))) ;");
        edge.within("four within one another, each with all that can wait", more(nested("1")), 1);
        edge.within("and 0 of them", more(nested("2")), 0);
    }

    /** The PART within as many not (a bit that is 0) and ( ). */
    private static String wrapped(String part, int mix, int depth) {
        String text = part;
        for (int level = 0; level < depth; level++) {
            text = (mix >> level & 1) == 0 ? "not " + text : "( " + text + " )";
        }
        return text;
    }

    /** 1 if the part is 1, else 0: 2 is 1 + 1 * 1 alone. */
    private static String nested(String part) {
        String text = "1 and 2 = 1 + 1 * " + part;
        for (int level = 0; level < 4; level++) {
            text = "1 and 2 = 1 + 1 * ( " + text + " )";
        }
        return text;
    }

    private void facts() {
        Edges.Edge edge = edges.of(7, "Facts: loud (how much it says), full (how many DAYS are in that HOUSE, it too), "
            + "month (the date, 0 to 11), times (how often it has come, this time too).");
        DateVale loud = edges.told("house a beds 1 ; day b plain of a on 0 says 40 ; fades 9 - 18 * ( loud = 99 ) ;");
        int[] says = {49, 58, 67, 76, 85, 94, 99, 90, 99};
        for (int year = 0; year < says.length; year++) {
            Bench.dates(loud, 12);
            edge.within("loud up to 99, year " + year, loud.day(0, 3), says[year]);
        }
        edge.within("loud ahead of what it says by it: 1", edges.told(
            "house a beds 1 ; day b plain of a on 1 says 1 ; fades loud ;", 1).day(0, 3), 2);
        DateVale full = edges.told("house a beds 6 ; house b beds 1 ; day c plain of a on 1 says 10 ; day d plain of a on 1 says 10 ; "
            + "day e plain of a on 1 says 10 ; day f plain of a on 1 says 10 ; day g plain of b on 1 says 10 ; "
            + "day i plain of a on 1 says 10 ; fades full ;", 1);
        int[] there = {11, 12, 13, 14, 11, 15};
        for (int day = 0; day < 6; day++) {
            edge.within("full, of the DAY " + day, full.day(day, 3), there[day]);
        }
        DateVale lent = edges.told("house a beds 1 ; house b beds 2 ; lends a b ; day c plain of b on 1 says 10 ; "
            + "day d plain of a on 1 says 10 ; day e plain of a on 1 says 10 ; fades full ;", 1);
        edge.within("full, of the HOUSE that is lent", lent.day(2, 3), 12);
        for (int on = 0; on < 12; on++) {
            String text = "house a beds 2 ; day b plain of a on " + on + " says 20 ; day c early of a on " + on
                + " says 20 ; fades ( month = " + on + " ) + 2 * ( month = " + (on + 11) % 12 + " ) ;";
            DateVale month = edges.told(text, on == 0 ? 12 : on);
            edge.within("month, on " + on, month.day(0, 3), 21);
            DateVale ahead = edges.told(text, on < 2 ? on + 11 : on - 1);
            edge.within("month, early on " + on, ahead.day(1, 3), 22);
        }
        edge.beyond("no month is 12 or less than 0", more("month = 12 or month < 0"), 0);
        DateVale times = edges.told("house a beds 1 ; day b plain of a on 1 says 10 ; day c plain of a on 1 says 9 ; "
            + "fades times ;", 1);
        edge.within("times, the first time", times.day(0, 3), 11);
        Bench.dates(times, 12);
        edge.within("times, the second time", times.day(0, 3), 13);
        times.build(0);
        Bench.dates(times, 12);
        edge.beyond("to be TURNED OFF is not to come", times.day(1, 3), 10);
    }

    private void truth() {
        Edges.Edge edge = edges.of(7, "Of not, and, or, < and = comes 1 or 0; what is not 0 is so");
        edge.within("not 0", more("not 0"), 1);
        edge.beyond("not 1", more("not 1"), 0);
        edge.beyond("not 7", more("not 7"), 0);
        edge.beyond("not less than 0", more("not ( 0 - 1 )"), 0);
        edge.within("not not 7", more("not not 7"), 1);
        String[] values = {"0", "1", "7", "( 0 - 1 )", "( 0 - 9999 )"};
        for (String left : values) {
            for (String right : values) {
                boolean one = !left.equals("0");
                boolean two = !right.equals("0");
                edge.within(left + " and " + right, more(left + " and " + right), one && two ? 1 : 0);
                edge.within(left + " or " + right, more(left + " or " + right), one || two ? 1 : 0);
                edge.within(left + " = " + right, more(left + " = " + right), left.equals(right) ? 1 : 0);
            }
        }
        edge.within("less than 0 is less than 0", more("0 - 1 < 0"), 1);
        edge.beyond("0 is not", more("0 < 0 - 1"), 0);
    }

    private void wraps() {
        Edges.Edge edge = edges.of(7, "ints wrap");
        edge.within("the greatest", more("0 < " + GREATEST), 1);
        edge.beyond("and one more", more(GREATEST + " + 1 < 0"), 1);
        edge.beyond("which is the least", more(GREATEST + " + 1 = 0 - " + GREATEST + " - 1"), 1);
        edge.within("the least", more("0 - " + GREATEST + " - 1 < 0"), 1);
        edge.beyond("and one less", more("0 < 0 - " + GREATEST + " - 2"), 1);
        edge.within("127 * 256 * 256 * 256", more("0 < 127 * 256 * 256 * 256"), 1);
        edge.beyond("128 * 256 * 256 * 256", more("128 * 256 * 256 * 256 < 0"), 1);
        edge.beyond("256 * 256 * 256 * 256", more("256 * 256 * 256 * 256 = 0"), 1);
        edge.beyond("it is not so", more("256 * 256 * 256 * 256 or 0"), 0);
        edge.beyond("the greatest twice is -2", more(GREATEST + " * 2"), -2);
        edge.within("the least, as more", more("0 - " + GREATEST + " - 1"), -9);
        edge.within("the greatest, as more", more(GREATEST), 9);
    }

    private void without() {
        Edges.Edge edge = edges.of(7, "Without fades: 0 - 1.");
        String text = "house a beds 1 ; day b plain of a on 1 says 2 ; ";
        DateVale vale = edges.told(text, 1);
        edge.within("one less", vale.day(0, 3), 1);
        edge.beyond("with fades 0", edges.told(text + "fades 0 ;", 1).day(0, 3), 2);
        DateVale again = edges.told(text + "fades 5 ;");
        edge.within("another VALE without", Bench.tell(again, text), 0);
        again.date();
        edge.within("one less again", again.day(0, 3), 1);
    }

    /** What one that says so much says behind its coming. */
    private int said(int says, String law) {
        return edges.told("house a beds 1 ; day b plain of a on 1 says " + says + " ; fades " + law + " ;", 1).day(0, 3);
    }

    private void more() {
        Edges.Edge edge = edges.of(7, "Who COMES says more by the E of fades (-9 to 9; less than 0: less), 0 to 99.");
        for (int more = 0; more <= 12; more++) {
            boolean within = more <= 9;
            int up = said(20, "" + more);
            int down = said(20, "0 - " + more);
            if (within) {
                edge.within("fades " + more, up, 20 + more);
                edge.within("fades 0 - " + more, down, 20 - more);
            } else {
                edge.beyond("fades " + more, up, 29);
                edge.beyond("fades 0 - " + more, down, 11);
            }
        }
        edge.within("10 less 9", said(10, "0 - 9"), 1);
        edge.within("9 less 9", said(9, "0 - 9"), 0);
        edge.beyond("8 less 9", said(8, "0 - 9"), 0);
        edge.beyond("1 less 9", said(1, "0 - 9"), 0);
        edge.within("40 and 9", said(40, "9"), 49);
        DateVale up = edges.told("house a beds 1 ; day b plain of a on 0 says 36 ; fades 9 ;", 12 * 7);
        edge.within("36 and seven times 9", up.day(0, 3), 99);
        DateVale just = edges.told("house a beds 1 ; day b plain of a on 0 says 35 ; fades 9 - 8 * ( loud = 98 ) ;", 12 * 7);
        edge.within("98", just.day(0, 3), 98);
        Bench.dates(just, 12);
        edge.within("98 and 1", just.day(0, 3), 99);
        DateVale cut = edges.told("house a beds 1 ; day b plain of a on 0 says 37 ; fades 9 ;", 12 * 6);
        edge.within("91", cut.day(0, 3), 91);
        Bench.dates(cut, 12);
        edge.beyond("91 and 9", cut.day(0, 3), 99);
        Bench.dates(cut, 12);
        edge.beyond("99 and 9", cut.day(0, 3), 99);
        DateVale off = edges.told("house a beds 1 ; day b big of a on 1 says 9 ; fades 5 ;", 1);
        edge.beyond("one that is TURNED OFF says as much as ahead", off.day(0, 3), 9);
    }
}
