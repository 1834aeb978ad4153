import java.util.ArrayList;
import java.util.Arrays;
import java.util.List;

/**
 * A second telling of the texts, in another way than the class reads them: the fault is found by a machine that goes
 * from token to token, a value by cutting the tokens at the loosest sign.
 */
final class TextModel {
    private static final List<String> NAMES =
        Arrays.asList("kind", "weekday", "hour", "long", "chair", "post", "double", "desk", "week", "rest");
    private static final List<String> KEYS = Arrays.asList("bar", "count", "pay", "or", "and", "not");

    final String source;
    final int fault;
    final List<List<String>> bars = new ArrayList<>();
    private List<String> count = new ArrayList<>();
    private List<String> pay = new ArrayList<>();

    private final List<String> tokens = new ArrayList<>();
    private final List<Integer> places = new ArrayList<>();

    TextModel(String source) {
        this.source = source;
        cutTokens();
        fault = findFault();
        if (fault < 0) {
            keepParts();
        }
    }

    long value(int what, long[] named) {
        List<String> part = what == 0 ? count : what == 1 ? pay : bars.get(what - 2);
        return valueOf(part, named);
    }

    // ---- tokens; one that is wrong by itself is told as "?"

    private void cutTokens() {
        int at = 0;
        while (at < source.length()) {
            char c = source.charAt(at);
            if (c == ' ' || c == '\n') {
                at++;
                continue;
            }
            int end = at + 1;
            String token = "?";
            if (c >= 'a' && c <= 'z') {
                while (end < source.length() && source.charAt(end) >= 'a' && source.charAt(end) <= 'z') {
                    end++;
                }
                String word = source.substring(at, end);
                token = NAMES.contains(word) || KEYS.contains(word) ? word : "?";
            } else if (c >= '0' && c <= '9') {
                while (end < source.length() && source.charAt(end) >= '0' && source.charAt(end) <= '9') {
                    end++;
                }
                token = end - at <= 5 ? source.substring(at, end) : "?";
            } else if ("();+-*<=".indexOf(c) >= 0) {
                token = "" + c;
            }
            tokens.add(token);
            places.add(at);
            at = end;
        }
    }

    private static boolean isAtom(String token) {
        return NAMES.contains(token) || Character.isDigit(token.charAt(0));
    }

    // ---- the machine

    private int findFault() {
        int at = 0;
        int barsRead = 0;
        String[] due = {"count", "pay"};
        int read = 0;
        while (read < 2) {
            if (at >= tokens.size()) {
                return source.length();
            }
            String key = tokens.get(at);
            if (key.equals("bar") && read == 0 && barsRead < 8) {
                barsRead++;
            } else if (key.equals(due[read])) {
                read++;
            } else {
                return places.get(at);
            }
            int end = endOfExpression(at + 1);
            if (end < 0) {
                return -1 - end;
            }
            at = end + 1;
        }
        return at < tokens.size() ? places.get(at) : -1;
    }

    /** The index of the ; that ends it; -1 less the place of the fault. */
    private int endOfExpression(int from) {
        // of each level of parentheses: nots, minuses that are open, and 1 if it is compared already
        List<int[]> levels = new ArrayList<>();
        levels.add(new int[3]);
        boolean wantsOne = true;
        boolean mayNot = true;
        for (int at = from; at < tokens.size(); at++) {
            String token = tokens.get(at);
            int bad = -1 - places.get(at);
            int[] level = levels.get(levels.size() - 1);
            int open = levels.size() - 1;
            for (int[] l : levels) {
                open += l[0] + l[1];
            }
            if (wantsOne) {
                boolean opens = token.equals("(") || token.equals("-") || token.equals("not") && mayNot;
                if (opens && open >= 6) {
                    return bad;
                }
                if (token.equals("(")) {
                    levels.add(new int[3]);
                    mayNot = true;
                } else if (token.equals("-")) {
                    level[1]++;
                    mayNot = false;
                } else if (token.equals("not") && mayNot) {
                    level[0]++;
                } else if (isAtom(token)) {
                    level[1] = 0;
                    wantsOne = false;
                } else {
                    return bad;
                }
                continue;
            }
            if (token.equals(";") && levels.size() == 1) {
                return at;
            }
            if (token.equals(")") && levels.size() > 1) {
                levels.remove(levels.size() - 1);
                levels.get(levels.size() - 1)[1] = 0;
                continue;
            }
            wantsOne = true;
            mayNot = false;
            if (token.equals("and") || token.equals("or")) {
                level[0] = 0;
                level[2] = 0;
                mayNot = true;
            } else if ((token.equals("<") || token.equals("=")) && level[2] == 0) {
                level[2] = 1;
            } else if (!token.equals("+") && !token.equals("-") && !token.equals("*")) {
                return bad;
            }
        }
        return -1 - source.length();
    }

    // ---- values

    private void keepParts() {
        int from = 0;
        for (int at = 0; at < tokens.size(); at++) {
            if (tokens.get(at).equals(";")) {
                List<String> part = tokens.subList(from + 1, at);
                String key = tokens.get(from);
                if (key.equals("bar")) {
                    bars.add(part);
                } else if (key.equals("count")) {
                    count = part;
                } else {
                    pay = part;
                }
                from = at + 1;
            }
        }
    }

    /** The last place, outside of parentheses, of one of the signs that stands behind a ONE; -1 if there is none. */
    private static int lastSign(List<String> part, String... signs) {
        int depth = 0;
        int found = -1;
        for (int i = 0; i < part.size(); i++) {
            String token = part.get(i);
            depth += token.equals("(") ? 1 : token.equals(")") ? -1 : 0;
            boolean behindOne = i > 0 && (part.get(i - 1).equals(")") || isAtom(part.get(i - 1)));
            if (depth == 0 && behindOne && Arrays.asList(signs).contains(token)) {
                found = i;
            }
        }
        return found;
    }

    private static long valueOf(List<String> part, long[] named) {
        int sign = lastSign(part, "or");
        sign = sign >= 0 ? sign : lastSign(part, "and");
        if (sign < 0 && part.get(0).equals("not")) {
            return valueOf(part.subList(1, part.size()), named) == 0 ? 1 : 0;
        }
        sign = sign >= 0 ? sign : lastSign(part, "<", "=");
        sign = sign >= 0 ? sign : lastSign(part, "+", "-");
        sign = sign >= 0 ? sign : lastSign(part, "*");
        if (sign >= 0) {
            long left = valueOf(part.subList(0, sign), named);
            long right = valueOf(part.subList(sign + 1, part.size()), named);
            switch (part.get(sign)) {
                case "or": return left != 0 || right != 0 ? 1 : 0;
                case "and": return left != 0 && right != 0 ? 1 : 0;
                case "<": return left < right ? 1 : 0;
                case "=": return left == right ? 1 : 0;
                case "+": return left + right;
                case "-": return left - right;
                default: return left * right;
            }
        }
        if (part.get(0).equals("-")) {
            return -valueOf(part.subList(1, part.size()), named);
        }
        if (part.get(0).equals("(")) {
            return valueOf(part.subList(1, part.size() - 1), named);
        }
        int name = NAMES.indexOf(part.get(0));
        return name >= 0 ? named[name] : Long.parseLong(part.get(0));
    }
}
