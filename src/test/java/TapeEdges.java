/** Promises 1 and 2, and the signs and TOKENS of the TAPE. */
final class TapeEdges {
    private static final long BLANKS = 0x2020202020202020L;
    private static final String SIGNS = "()<=+-*;";

    private final Edges edges;

    TapeEdges(Edges edges) {
        this.edges = edges;
    }

    void all() {
        newObject();
        calls();
        signs();
        length();
        lengthWithinACall();
        order();
        taken();
        blanks();
        longest();
        words();
        numbers();
        others();
    }

    private static DateVale blank(int signs) {
        DateVale vale = new DateVale();
        Bench.feed(vale, " ".repeat(signs));
        return vale;
    }

    private void newObject() {
        Edges.Edge edge = edges.of(1, "At first: nothing.");
        DateVale vale = new DateVale();
        for (int what = 0; what < 13; what++) {
            edge.within("count(" + what + ")", vale.count(what), what == 2 ? 1 : 0);
        }
        for (int what = 0; what < 8; what++) {
            edge.within("house(0, " + what + ")", vale.house(0, what), -2);
            edge.within("day(0, " + what + ")", vale.day(0, what), -2);
        }
        for (int mark = 0; mark < 4; mark++) {
            edge.within("mark(" + mark + ", true)", vale.mark(mark, true), false);
        }
        for (int what = 0; what < 3; what++) {
            edge.within("judged(" + what + ")", vale.judged(what), what == 2 ? 0 : -1);
        }
        edge.within("undo()", vale.undo(), false);
        edge.within("vale() of nothing", vale.vale(), 0);
        edge.within("year() of nothing", vale.year(), 0);
        edge.beyond("the first VALE", Bench.tell(vale, "house a beds 1 ; day b plain of a on 0 says 1 ;"), 0);
        edge.beyond("a HOUSE", vale.house(0, 0), 1);
        edge.beyond("a DAY", vale.day(0, 3), 1);
        edge.beyond("the first YEAR", Bench.tellYear(vale, "date ;"), 0);
        edge.beyond("its line", vale.count(9), 1);
        Edges.Edge none = edges.of(1, "The constants: `NONE = -1`: None.");
        none.within("NONE", DateVale.NONE, -1);
        none.beyond("it is none of the HOUSES", vale.house(DateVale.NONE, 0), -2);
        Edges.Edge made = edges.of(1, "`DateVale()`: Nothing.");
        DateVale other = new DateVale();
        made.within("another object has none of it", other.count(0), 0);
        made.within("no line", other.count(9), 0);
        made.beyond("the first one has", vale.count(0), 1);
    }

    private void calls() {
        Edges.Edge edge = edges.of(1, "An object is used for at most 512 calls after it has been made");
        DateVale vale = new DateVale();
        for (int call = 1; call <= 510; call++) {
            edge.within("date(), call " + call, vale.date(), 0);
        }
        edge.within("the year, call 511", vale.count(3), 42);
        edge.within("the date, call 512", vale.count(4), 6);
        edge.nothingBeyond("what later calls answer is free");
    }

    private void signs() {
        Edges.Edge edge = edges.of(2, "others than 10 and 32 .. 126, and what is beyond 1,000, are left out");
        for (int sign = 0; sign < 256; sign++) {
            boolean kept = sign == 10 || sign >= 32 && sign <= 126;
            for (int shift = 0; shift < 64; shift += 8) {
                long bytes = (long) sign << shift;
                String what = "sign " + sign + ", shifted by " + shift;
                int got = new DateVale().feed(bytes, 0, 0) + 2 * new DateVale().feed(0, bytes, 0)
                    + 4 * new DateVale().feed(0, 0, bytes);
                if (kept) {
                    edge.within(what, got, 7);
                } else {
                    edge.beyond(what, got, 0);
                }
            }
        }
        Edges.Edge tape = edges.of(2, "10 and 32 .. 126");
        DateVale vale = new DateVale();
        tape.beyond("9, 11, 31, 127, 128, 255", vale.feed(0x090b1f7f80ff0000L, 0, 0), 0);
        tape.within("10, 32, 126", vale.feed(0x0a207e0000000000L, 0, 0), 3);
        tape.within("they stand one behind another: 126 at 2 is none", vale.vale(), 1 + 16 * 2);
    }

    private void length() {
        Edges.Edge edge = edges.of(2, "The TAPE has at most 1,000 signs");
        DateVale vale = blank(998);
        edge.within("999", vale.feed(0x61L, 0, 0), 999);
        edge.within("1,000", vale.feed(0, 0x20L, 0), 1000);
        edge.beyond("1,001", vale.feed(0x62L, 0, 0), 1000);
        edge.beyond("24 more", vale.feed(BLANKS, BLANKS, BLANKS), 1000);
        edge.beyond("count(12)", vale.count(12), 1000);
        edge.within("a at 998", vale.vale(), 1 + 16 * 998);
        edge.beyond("what was left out does not come later", vale.count(12), 0);
        edge.within("room again", vale.feed(0x62L, 0, 0), 1);
        Edges.Edge end = edges.of(3, "the end being one at the text's length");
        DateVale full = blank(993);
        Bench.feed(full, "stays 4");
        end.within("1,000 signs", full.count(12), 1000);
        full.feed(0x3bL, 0, 0);
        end.beyond("the ; did not come: the end at 1,000", full.vale(), 1 + 16 * 1000);
        DateVale just = blank(992);
        Bench.feed(just, "stays 4;");
        end.within("the ; came: 1,000 signs without a FAULT", just.vale(), 0);
    }

    private void lengthWithinACall() {
        Edges.Edge edge = edges.of(2, "what is beyond 1,000, are left out");
        DateVale half = blank(992);
        edge.within("eight of sixteen", half.feed(0x7374617973203420L, 0x3b20202020202020L, 0), 1000);
        edge.beyond("stays 4 without its ;", half.vale(), 1 + 16 * 1000);
        DateVale ten = blank(990);
        edge.within("ten of 24", ten.feed(0x7374617973203420L, 0x203b3b3b3b3b3b3bL, 0x3b3b3b3b3b3b3b3bL), 1000);
        edge.within("stays 4 ; and none of the other ;", ten.vale(), 0);
        edge.within("4", ten.count(2), 4);
    }

    private void order() {
        Edges.Edge edge = edges.of(2, "Up to 24 signs come behind the TAPE: the bytes of a, b, c, of each the highest first");
        DateVale vale = new DateVale();
        edge.within("none", vale.feed(0, 0, 0), 0);
        edge.within("house abcdefgh beds 6 ;", vale.feed(0x686f757365206162L, 0x6364656667682062L, 0x6564732036203b20L), 24);
        edge.within("23 more: day b big of abcdefgh", vale.feed(0x6461792062206269L, 0x67206f6620616263L, 0x6465666768200000L), 46);
        edge.within("on 1 says 2;", vale.feed(0x6f6e203120736179L, 0x732032203b000000L, 0), 59);
        edge.within("as told", vale.vale(), 0);
        edge.within("beds", vale.house(0, 0), 6);
        edge.within("says", vale.day(0, 3), 2);
        DateVale turned = new DateVale();
        edge.beyond("stays 2; from the lowest", turned.feed(0x3b32207379617473L, 0, 0), 8);
        edge.beyond("; at 0", turned.vale(), 1);
        Edges.Edge many = edges.of(2, "how many there are");
        DateVale more = new DateVale();
        many.within("one", more.feed(0, 0, 0x61L), 1);
        many.within("and 24", more.feed(BLANKS, BLANKS, BLANKS), 25);
        many.beyond("and none", more.feed(0, 0, 0), 25);
    }

    private void taken() {
        Edges.Edge edge = edges.of(3, "what reads it takes it: it is empty then");
        String[] texts = {"", " ", "stays 1 ;", "stays 5 ;", "date ;", "date", "~"};
        for (String text : texts) {
            DateVale vale = new DateVale();
            Bench.feed(vale, text);
            edge.beyond("ahead of it, " + text, vale.count(12), text.length());
            vale.vale();
            edge.within("behind vale() of " + text, vale.count(12), 0);
            Bench.feed(vale, text);
            edge.beyond("ahead of it again, " + text, vale.count(12), text.length());
            vale.year();
            edge.within("behind year() of " + text, vale.count(12), 0);
        }
        DateVale twice = new DateVale();
        edge.within("stays 2 ;", Bench.tell(twice, "stays 2 ;"), 0);
        edge.within("nothing is left: a VALE of no lines", twice.vale(), 0);
        edge.within("so one stays 1", twice.count(2), 1);
    }

    private void blanks() {
        Edges.Edge edge = edges.of(3, "blanks (10, 32) between where one likes");
        edge.tells("house a beds 1;day b plain of a on 1says 2;stays2;");
        edge.tells("\n  house \n\n a\nbeds\n 1\n;\n\n  stays  \n 2 \n ; \n");
        edge.tells("fades ( 1 + 2 ) * 3 - 4 < 5 ; ");
        edge.tells("fades(1+2)*3-4<5;");
        edge.faults(1, "^stay s 1 ;");
        edge.faults(1, "^stay\ns 1 ;");
        edge.faults(1, "fades 1 ^0 ;");
        edge.faults(1, "fades 1\n^0 ;");
    }

    private void longest() {
        Edges.Edge edge = edges.of(3, "TOKENS, each as long as can be");
        edge.tells("house a beds1;stays1;fades1and1or1;");
        edge.faults(4, "house a beds 1;day b big of a on ^12 says 1;");
        edge.faults(1, "house a beds 1;day b big of a on 1 ^2 says 1;");
        edge.faults(1, "^housea beds 1;");
        edge.faults(1, "house a beds 1^a;");
        edge.faults(1, "fades 1<^=1;");
    }

    private void words() {
        Edges.Edge edge = edges.of(3, "WORDS (letters a .. z, 8 at most)");
        for (String name : new String[] {"a", "z", "abcdefgh", "stuvwxyz", "zzzzzzzz", "aaaaaaaa"}) {
            edge.tells("house " + name + " beds 1 ;");
        }
        edge.tells("house zzzzzzza beds 1; house zzzzzzzb beds 1;");
        edge.tells("house azzzzzzz beds 1; house bzzzzzzz beds 1;");
        edge.tells("house aaaaaaa beds 1; house aaaaaaaa beds 1;");
        edge.faults(1, "house ^abcdefghi beds 1 ;");
        edge.faults(1, "house abcdefgh beds 1 ; house b beds 1 ; lends ^abcdefghi b ;");
        edge.faults(1, "house ^" + "a".repeat(90) + " beds 1 ;");
        for (char sign : new char[] {'`', '{', '@', 'A', 'Z', '['}) {
            edge.faults(1, "house ^" + sign + " beds 1 ;");
            edge.faults(1, "house a^" + sign + " beds 1 ;");
        }
    }

    private void numbers() {
        Edges.Edge edge = edges.of(3, "NUMBERS (1 to 4 digits; a letter may stand right behind)");
        edge.tells("house a beds 1 ;");
        edge.tells("house a beds 06 ;");
        edge.tells("house a beds 0006 ;");
        edge.faults(1, "house a beds ^00006 ;");
        edge.tells("fades 9999 ;");
        edge.faults(1, "fades ^10000 ;");
        edge.faults(1, "fades ^" + "9".repeat(99) + " ;");
        edge.tells("house a beds 1;day b big of a on 11says 40;");
        edge.tells("fades 0001and 9999or 1;");
        edge.faults(1, "fades ^00001and 1;");
        for (char digit = '0'; digit <= '9'; digit++) {
            edge.tells("fades " + digit + " ;");
        }
        edge.faults(1, "fades ^/ ;");
        edge.faults(1, "fades ^: ;");
    }

    /** Each sign between two NUMBERS of a law: five join them; ( and ) and all else can't stand there. */
    private void others() {
        Edges.Edge edge = edges.of(3, "the signs ( ) < = + - * ; All else (a longer WORD or NUMBER, too, at its first sign) is none.");
        for (char sign = 33; sign <= 126; sign++) {
            String text = "fades 1 " + sign + " 1 ;";
            int got = Bench.tell(new DateVale(), text);
            if ("<=+-*".indexOf(sign) >= 0) {
                edge.within(text, got, 0);
            } else if (sign == ';') {
                edge.within(text, got, 1 + 16 * 10);
            } else {
                edge.beyond(text, got, 1 + 16 * 8);
            }
        }
        edge.tells("fades (1) ;");
        for (char sign = 33; sign <= 126; sign++) {
            if (SIGNS.indexOf(sign) < 0 && !(sign >= 'a' && sign <= 'z') && !(sign >= '0' && sign <= '9')) {
                edge.beyond("a line of " + sign, Bench.tell(new DateVale(), "stays 1 ; " + sign), 1 + 16 * 10);
                edge.beyond("a line ended by " + sign, Bench.tell(new DateVale(), "stays 1 " + sign + " ;"), 1 + 16 * 8);
            }
        }
        edge.faults(1, "stays 1 ; ^staysstays 1 ;");
        edge.faults(1, "stays ^12345 ;");
    }
}
