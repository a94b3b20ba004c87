import java.util.ArrayDeque;
import java.util.ArrayList;
import java.util.Deque;
import java.util.HashMap;
import java.util.HashSet;
import java.util.List;
import java.util.Map;
import java.util.Set;
import java.util.regex.Matcher;
import java.util.regex.Pattern;

/** A second reading of the text of a ring: TOKENS by a pattern, lines by what is due next, e by a stack. */
final class TextModel {
    private static final Pattern TOKEN = Pattern.compile("[ \n]*(?:([a-z]+)|([0-9]+[a-z]?)|([;()<>=+*/-])|([^ \n]))");
    private static final Set<String> OWN = Set.of("stand", "begin", "left", "count", "turn", "again", "boy", "guard", "to",
        "rhyme", "person", "worth", "drawn", "weight", "or", "and", "not", "going", "here", "last", "words", "signs");
    private static final Map<String, String> LINES = Map.ofEntries(Map.entry("stand", "1-60"), Map.entry("begin", "0-59"),
        Map.entry("left", "1-59"), Map.entry("turn", "1-99"), Map.entry("again", "0-9"), Map.entry("boy", "0-59"),
        Map.entry("guard", "0-59 to first-59"), Map.entry("rhyme", "names"), Map.entry("count", "e"),
        Map.entry("person", "new worth 0-999"), Map.entry("drawn", "1-999 weight 1-99"));
    private static final Map<String, Integer> MOST = Map.of("guard", 8, "person", 9, "drawn", 12);

    private static final class Token {
        final String text;
        final int place;
        final char sort;

        Token(String text, int place, char sort) {
            this.text = text;
            this.place = place;
            this.sort = sort;
        }

        int number() {
            return Integer.parseInt(text);
        }
    }

    int fault;
    int place = -1;
    int posts = 1;
    private final List<Token> tokens = new ArrayList<>();
    private final Map<String, Integer> told = new HashMap<>();
    private final Set<String> once = new HashSet<>();
    private int at;
    private int units;

    TextModel(String text) {
        cut(text);
        while (fault == 0 && tokens.get(at).sort != '.') {
            line();
        }
    }

    private void cut(String text) {
        Matcher matcher = TOKEN.matcher(text);
        int from = 0;
        while (matcher.find(from) && matcher.start() == from) {
            for (int group = 1; group <= 4; group++) {
                String token = matcher.group(group);
                if (token != null) {
                    tokens.add(new Token(token, matcher.start(group), sortOf(token, group)));
                }
            }
            from = matcher.end();
        }
        tokens.add(new Token("", text.length(), '.'));
    }

    /** w: a word of its own, n: a NAME, d: an N, s: a sign, x: none. */
    private static char sortOf(String token, int group) {
        switch (group) {
            case 1: return token.length() > 8 ? 'x' : OWN.contains(token) ? 'w' : 'n';
            case 2: return token.matches("[0-9]{1,4}") ? 'd' : 'x';
            case 3: return 's';
            default: return 'x';
        }
    }

    private boolean refuse(int number) {
        if (fault == 0) {
            fault = tokens.get(at).sort == 'x' ? 1 : number;
            place = tokens.get(at).place;
        }
        return false;
    }

    private void line() {
        Token first = tokens.get(at);
        String rest = first.sort == 'w' ? LINES.get(first.text) : null;
        int before = told.getOrDefault(first.text, 0);
        if (rest == null || before >= MOST.getOrDefault(first.text, 1)) {
            refuse(2);
            return;
        }
        told.put(first.text, before + 1);
        at++;
        int least = 0;
        for (String due : (rest + " ;").split(" ")) {
            Token token = tokens.get(at);
            if (due.equals("names") ? !names() : due.equals("e") ? !count() : !fits(first.text, due, least)) {
                return;
            }
            least = token.sort == 'd' ? token.number() : least;
        }
    }

    private boolean fits(String line, String due, int first) {
        Token token = tokens.get(at);
        if (due.equals("new")) {
            if (token.sort != 'n') {
                return refuse(2);
            }
        } else if (due.contains("-")) {
            if (token.sort != 'd') {
                return refuse(2);
            }
            String[] bounds = due.replace("first", "" + first).split("-");
            if (token.number() < Integer.parseInt(bounds[0]) || token.number() > Integer.parseInt(bounds[1])) {
                return refuse(4);
            }
            posts = line.equals("stand") ? token.number() : posts;
        } else if (token.sort == 'x' || !token.text.equals(due)) {
            return refuse(2);
        }
        boolean named = due.equals("new") || due.equals("1-999");
        if (named && !once.add(line + (token.sort == 'd' ? "" + token.number() : token.text))) {
            return refuse(3);
        }
        at++;
        return true;
    }

    private boolean names() {
        int many = 0;
        while (tokens.get(at).sort == 'n' && many < 24) {
            many++;
            at++;
        }
        return many > 0 || refuse(2);
    }

    /** Open brackets, each with the nots ahead of it and whether its one has a relation. */
    private boolean count() {
        Deque<int[]> open = new ArrayDeque<>();
        int nots = 0;
        int others = 0;
        boolean related = false;
        boolean wantsUnit = true;
        boolean oneBegins = true;
        while (true) {
            Token token = tokens.get(at);
            if (wantsUnit) {
                if (oneBegins && token.text.equals("not")) {
                    if (others >= 7) {
                        return refuse(2);
                    }
                    nots++;
                    others++;
                } else {
                    boolean bracket = token.text.equals("(");
                    boolean plain = token.sort == 'd' || List.of("going", "here", "last", "words", "signs").contains(token.text);
                    if (!bracket && !plain || units == 40 || bracket && others >= 7) {
                        return refuse(2);
                    }
                    units++;
                    oneBegins = bracket;
                    wantsUnit = bracket;
                    if (bracket) {
                        open.push(new int[] {nots, related ? 1 : 0});
                        others++;
                        nots = 0;
                        related = false;
                    }
                }
            } else if (token.sort == 's' && "+-*/".contains(token.text)) {
                wantsUnit = true;
            } else if (token.sort == 's' && "<>=".contains(token.text) && !related) {
                related = true;
                wantsUnit = true;
            } else if (token.text.equals("or") || token.text.equals("and")) {
                others -= nots;
                nots = 0;
                related = false;
                wantsUnit = true;
                oneBegins = true;
            } else if (token.text.equals(")") && !open.isEmpty()) {
                others -= nots + 1;
                nots = open.peek()[0];
                related = open.pop()[1] == 1;
            } else {
                return open.isEmpty() || refuse(2);
            }
            at++;
        }
    }
}
