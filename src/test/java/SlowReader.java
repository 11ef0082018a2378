import java.util.ArrayDeque;
import java.util.ArrayList;
import java.util.Deque;
import java.util.HashSet;
import java.util.List;
import java.util.Set;
import java.util.regex.Matcher;
import java.util.regex.Pattern;

/**
 * The document's language told a second time, for TextTest. It keeps a pile of what is due next, and judges token by
 * token; an E is only walked through (a PART is due, or one has been), as no FAULT asks which operator binds first.
 */
final class SlowReader {
    private static final Pattern TOKEN = Pattern.compile("[a-z]+|[0-9]+|[^ \n]");
    private static final Set<String> KEPT = Set.of("house", "beds", "lends", "day", "of", "on", "says", "clash", "stays",
        "fades", "date", "move", "send", "build", "plain", "big", "early", "leap", "not", "and", "or");

    final List<String> houses = new ArrayList<>();
    final List<String> days = new ArrayList<>();
    private final Set<Set<String>> pairs = new HashSet<>();
    private final Set<String> once = new HashSet<>();
    private final Deque<String> due = new ArrayDeque<>();
    private final boolean ofYear;
    private String first;
    int lines;

    private SlowReader(boolean ofYear) {
        this.ofYear = ofYear;
    }

    static SlowReader ofVale() {
        return new SlowReader(false);
    }

    static SlowReader ofYear(SlowReader vale) {
        SlowReader year = new SlowReader(true);
        year.houses.addAll(vale.houses);
        year.days.addAll(vale.days);
        return year;
    }

    int fault(String text) {
        Matcher tokens = TOKEN.matcher(text);
        while (tokens.find()) {
            int kind = judge(tokens.group());
            if (kind != 0) {
                return kind + 16 * tokens.start();
            }
        }
        return due.isEmpty() ? 0 : 1 + 16 * text.length();
    }

    private int judge(String token) {
        if (!token.matches("[a-z]{1,8}|[0-9]{1,4}|[()<=+*;-]")) {
            return 1;
        }
        if (due.isEmpty()) {
            return ofYear ? beginYearLine(token) : beginValeLine(token);
        }
        String next = due.pop();
        while (next.startsWith("TAIL")) {
            if (goesOn(token, next)) {
                return 0;
            }
            next = due.pop();
        }
        return next.startsWith("PART") ? part(token, next.charAt(4) - '0') : plain(token, next);
    }

    private int beginValeLine(String token) {
        switch (token) {
            case "house":
                return houses.size() == 4 ? 5 : dueNext("NEWHOUSE beds 1..6 ;");
            case "lends":
                return dueNext("HOUSE HOUSE2 ;");
            case "day":
                return days.size() == 6 ? 5 : dueNext("NEWDAY KIND of HOUSE on 0..11 says 0..40 ;");
            case "clash":
                return dueNext("DAY DAY2 ;");
            case "stays":
                return once.add(token) ? dueNext("1..4 ;") : 3;
            case "fades":
                return once.add(token) ? dueNext("PART0 TAIL0 ;") : 3;
            default:
                return 1;
        }
    }

    private int beginYearLine(String token) {
        int at = List.of("date", "move", "send", "build").indexOf(token);
        if (at < 0) {
            return 1;
        }
        lines++;
        return lines > 40 ? 5 : dueNext(new String[] {";", "DAY HOUSE ;", "DAY ;", "HOUSE ;"}[at]);
    }

    private int dueNext(String row) {
        String[] all = row.split(" ");
        for (int at = all.length - 1; at >= 0; at--) {
            due.push(all[at]);
        }
        return 0;
    }

    /** Behind a PART: TAIL, how deep, and + if its TEST has a < or = already. */
    private boolean goesOn(String token, String tail) {
        char depth = tail.charAt(4);
        boolean compared = tail.endsWith("+");
        boolean joins = token.matches("and|or");
        boolean compares = token.matches("[<=]") && !compared;
        if (!joins && !compares && !token.matches("[+*-]")) {
            return false;
        }
        due.push("TAIL" + depth + (compares || compared && !joins ? "+" : ""));
        due.push("PART" + depth);
        return true;
    }

    private int part(String token, int depth) {
        if (!token.matches("[0-9]+|loud|full|month|times|not|[(]")) {
            return 1;
        }
        if (depth == 5) {
            return 5;
        }
        if (token.equals("not")) {
            due.push("PART" + (depth + 1));
        } else if (token.equals("(")) {
            dueNext("PART" + (depth + 1) + " TAIL" + (depth + 1) + " )");
        }
        return 0;
    }

    private int plain(String token, String next) {
        if (next.contains("..")) {
            String[] ends = next.split("[.]+");
            if (!token.matches("[0-9]+")) {
                return 1;
            }
            int number = Integer.parseInt(token);
            return number < Integer.parseInt(ends[0]) || number > Integer.parseInt(ends[1]) ? 4 : 0;
        }
        if (next.equals("KIND")) {
            return token.matches("plain|big|early|leap") ? 0 : 1;
        }
        if (!next.matches("[A-Z].*")) {
            return token.equals(next) ? 0 : 1;
        }
        return !token.matches("[a-z]+") || KEPT.contains(token) ? 1 : name(token, next);
    }

    private int name(String token, String next) {
        if (next.startsWith("NEW")) {
            boolean told = houses.contains(token) || days.contains(token);
            (next.equals("NEWHOUSE") ? houses : days).add(token);
            return told ? 3 : 0;
        }
        if (!(next.startsWith("HOUSE") ? houses : days).contains(token)) {
            return 2;
        }
        if (next.endsWith("2")) {
            return token.equals(first) || !pairs.add(Set.of(first, token)) ? 3 : 0;
        }
        first = token;
        return 0;
    }
}
