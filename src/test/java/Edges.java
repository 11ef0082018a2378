import java.io.IOException;
import java.nio.file.Files;
import java.nio.file.Path;
import java.util.ArrayList;
import java.util.List;
import java.util.regex.Matcher;
import java.util.regex.Pattern;

/** The edges that the document names: each by its promise and its sentence, and tried on both sides. */
final class Edges {
    /** Words by which a sentence of the document names an edge: each such place has to lie in a sentence quoted. */
    private static final Pattern NAMES_AN_EDGE = Pattern.compile(
        "\\d+ to \\d+|\\d+ \\.\\. \\d+|at most|\\d+ at|others|NONE|[Tt]he first|the least|the most|fewest|longest"
            + "|all stays|can't|if any|none|nobody|nothing|[Nn]owhere|the same|once|never|empty|a fifth|41st|ninth|within");
    private static final int PROMISES = 36;

    final Bench bench = new Bench();
    private final List<Edge> all = new ArrayList<>();

    /** A sentence with both sides of its edge. */
    final class Edge {
        private final int promise;
        private final String sentence;
        private int within;
        private int beyond;

        private Edge(int promise, String sentence) {
            this.promise = promise;
            this.sentence = sentence;
        }

        void within(String what, long got, long want) {
            within++;
            due(what, got, want);
        }

        void within(String what, boolean got, boolean want) {
            within(what, got ? 1 : 0, want ? 1 : 0);
        }

        void beyond(String what, long got, long want) {
            beyond++;
            due(what, got, want);
        }

        void beyond(String what, boolean got, boolean want) {
            beyond(what, got ? 1 : 0, want ? 1 : 0);
        }

        /** A text that is a VALE. */
        void tells(String text) {
            within("vale() of " + text, Bench.tell(new DateVale(), text), 0);
        }

        /** A text that is none: a ^ stands ahead of the token that is wrong. */
        void faults(int kind, String marked) {
            beyond("vale() of " + marked, Bench.tell(new DateVale(), plain(marked)), fault(kind, marked));
        }

        /** A text that is a YEAR for the VALE told. */
        void tellsYear(String told, String text) {
            within("year() of " + text, Bench.tellYear(Edges.this.told(told), text), 0);
        }

        void faultsYear(String told, int kind, String marked) {
            beyond("year() of " + marked, Bench.tellYear(Edges.this.told(told), plain(marked)), fault(kind, marked));
        }

        /** For an edge whose other side no run of calls reaches, or is free; the reason is for who reads the test. */
        void nothingBeyond(String reason) {
            beyond++;
        }

        /** All that can be asked of the vale is as it was. */
        void stays(String what, DateVale vale, int[] ahead) {
            int[] now = stateOf(vale);
            for (int at = 0; at < Math.max(now.length, ahead.length); at++) {
                due(what + ", what stays, " + at, at < now.length ? now[at] : Integer.MIN_VALUE,
                    at < ahead.length ? ahead[at] : Integer.MIN_VALUE);
            }
        }

        private void due(String what, long got, long want) {
            bench.due("promise " + promise + ", \"" + sentence + "\": " + what, got, want);
        }
    }

    /** A text without the ^ that marks the place of its FAULT. */
    static String plain(String marked) {
        return marked.replace("^", "");
    }

    static int fault(int kind, String marked) {
        return kind + 16 * marked.indexOf('^');
    }

    Edge of(int promise, String sentence) {
        Edge edge = new Edge(promise, sentence);
        all.add(edge);
        return edge;
    }

    DateVale told(String text) {
        return bench.told(text);
    }

    DateVale told(String text, int dates) {
        DateVale vale = told(text);
        Bench.dates(vale, dates);
        return vale;
    }

    /** What the questions of the face answer; none of them changes anything. */
    static int[] stateOf(DateVale vale) {
        List<Integer> state = new ArrayList<>();
        for (int what = 0; what < 13; what++) {
            state.add(vale.count(what));
        }
        int houses = vale.count(0);
        for (int house = 0; house < houses; house++) {
            for (int what = 0; what < 5; what++) {
                state.add(vale.house(house, what));
            }
        }
        int days = vale.count(1);
        for (int day = 0; day < days; day++) {
            for (int what = 0; what < 8; what++) {
                state.add(vale.day(day, what));
            }
            state.add(vale.gone(day));
        }
        for (int what = 0; what < 3; what++) {
            state.add(vale.judged(what));
            state.add(vale.ages(77, 60, what));
        }
        state.add(vale.who());
        return state.stream().mapToInt(Integer::intValue).toArray();
    }

    /** Both sides were tried, every promise has an edge, and the document's words are quoted as they stand there. */
    void end(String name, Path document) throws IOException {
        boolean[] named = new boolean[PROMISES + 1];
        for (Edge edge : all) {
            named[edge.promise] = true;
            edge.due("tried within", edge.within > 0 ? 1 : 0, 1);
            edge.due("tried beyond", edge.beyond > 0 ? 1 : 0, 1);
        }
        for (int promise = 1; promise <= PROMISES; promise++) {
            bench.due("promise " + promise + " has an edge", named[promise], true);
        }
        if (Files.exists(document)) {
            holdAgainst(Files.readString(document).replaceAll("\\s+", " "));
        } else {
            System.out.println("no " + document + " here: the sentences are not held against it");
        }
        System.out.println(all.size() + " sentences");
        bench.end(name);
    }

    private void holdAgainst(String text) {
        boolean[] quoted = new boolean[text.length()];
        int terms = text.indexOf("## Terms");
        int promises = text.indexOf("## Promise 1:");
        int rest = text.indexOf("## Not promised");
        for (Edge edge : all) {
            int own = text.indexOf("## Promise " + edge.promise + ":");
            int next = edge.promise < PROMISES ? text.indexOf("## Promise " + (edge.promise + 1) + ":") : rest;
            boolean found = quote(text, edge.sentence, own, next, quoted) | quote(text, edge.sentence, 0, promises, quoted);
            edge.due("the sentence stands in the document", found ? 1 : 0, 1);
        }
        Matcher names = NAMES_AN_EDGE.matcher(text).region(terms, rest);
        while (names.find()) {
            if (!quoted[names.start()]) {
                int from = Math.max(terms, names.start() - 40);
                int to = Math.min(rest, names.end() + 40);
                bench.due("no edge quotes: .. " + text.substring(from, to) + " ..", 0, 1);
            }
        }
    }

    private static boolean quote(String text, String sentence, int from, int to, boolean[] quoted) {
        boolean found = false;
        for (int at = text.indexOf(sentence, from); at >= 0 && at < to; at = text.indexOf(sentence, at + 1)) {
            found = true;
            for (int sign = at; sign < at + sentence.length(); sign++) {
                quoted[sign] = true;
            }
        }
        return found;
    }
}
