import java.util.ArrayList;
import java.util.HashMap;
import java.util.List;
import java.util.Map;
import java.util.Set;
import java.util.regex.Matcher;
import java.util.regex.Pattern;

/** A tariff read into trees, for Model. */
final class ModelTariff {
    private static final Set<String> VALUES = Set.of("zone", "hour", "day", "lasted", "units", "line");
    private static final Set<String> OTHERS = Set.of("let", "unit", "each", "when", "and", "or", "not");
    private static final Pattern TOKEN = Pattern.compile("[a-z]+|[0-9]+|[^ \\n]");

    interface Tree {
        int value(Map<String, Integer> of);
    }

    record Told(String name, Tree e, int units, int each) {
    }

    record Token(String text, int place) {
        boolean isNone() {
            char c = text.isEmpty() ? ';' : text.charAt(0);
            return c >= 'a' && c <= 'z' ? text.length() > 8
                    : c >= '0' && c <= '9' ? text.length() > 4 : "()<=+-*;".indexOf(c) < 0;
        }

        boolean isNumber() {
            return !isNone() && text.matches("[0-9]+");
        }

        boolean isName() {
            return !isNone() && text.matches("[a-z]+") && !VALUES.contains(text) && !OTHERS.contains(text);
        }
    }

    static final class Fault extends RuntimeException {
        private static final long serialVersionUID = 1;

        final int code;

        Fault(int kind, Token token) {
            code = kind + 16 * token.place;
        }
    }

    final List<Told> lines = new ArrayList<>();
    final List<String> names = new ArrayList<>();
    private final List<Token> tokens = new ArrayList<>();
    private int at;

    int read(String text) {
        Matcher m = TOKEN.matcher(text);
        while (m.find()) {
            tokens.add(new Token(m.group(), m.start()));
        }
        tokens.add(new Token("", text.length()));
        try {
            while (!seen().text.isEmpty()) {
                line();
            }
        } catch (Fault f) {
            return f.code;
        }
        return 0;
    }

    private Token seen() {
        return tokens.get(at);
    }

    private Token pass(String text) {
        if (!seen().text.equals(text)) {
            throw new Fault(1, seen());
        }
        return tokens.get(at++);
    }

    private int number(int least, int most) {
        if (!seen().isNumber()) {
            throw new Fault(1, seen());
        }
        int n = Integer.parseInt(seen().text);
        if (n < least || n > most) {
            throw new Fault(4, seen());
        }
        at++;
        return n;
    }

    private void line() {
        String first = seen().text;
        if (!first.equals("let") && !first.equals("unit")) {
            throw new Fault(1, seen());
        }
        if (lines.size() == 16) {
            throw new Fault(5, seen());
        }
        at++;
        if (first.equals("let")) {
            if (!seen().isName()) {
                throw new Fault(1, seen());
            }
            if (names.contains(seen().text)) {
                throw new Fault(3, seen());
            }
            if (names.size() == 6) {
                throw new Fault(5, seen());
            }
            String name = tokens.get(at++).text;
            pass("=");
            Tree e = e(0);
            pass(";");
            names.add(name);
            lines.add(new Told(name, e, 0, 0));
        } else {
            int units = number(0, 99);
            pass("each");
            int each = number(30, 9999);
            pass("when");
            Tree e = e(0);
            pass(";");
            lines.add(new Told(null, e, units, each));
        }
    }

    private Tree e(int within) {
        Tree left = test(within);
        while (seen().text.equals("and") || seen().text.equals("or")) {
            boolean and = tokens.get(at++).text.equals("and");
            Tree a = left;
            Tree b = test(within);
            left = and ? of -> a.value(of) != 0 & b.value(of) != 0 ? 1 : 0
                    : of -> a.value(of) != 0 | b.value(of) != 0 ? 1 : 0;
        }
        return left;
    }

    private Tree test(int within) {
        Tree a = sum(within);
        if (seen().text.equals("<")) {
            at++;
            Tree b = sum(within);
            return of -> a.value(of) < b.value(of) ? 1 : 0;
        }
        if (seen().text.equals("=")) {
            at++;
            Tree b = sum(within);
            return of -> a.value(of) == b.value(of) ? 1 : 0;
        }
        return a;
    }

    private Tree sum(int within) {
        Tree left = term(within);
        while (seen().text.equals("+") || seen().text.equals("-")) {
            int sign = tokens.get(at++).text.equals("+") ? 1 : -1;
            Tree a = left;
            Tree b = term(within);
            left = of -> a.value(of) + sign * b.value(of);
        }
        return left;
    }

    private Tree term(int within) {
        Tree left = part(within);
        while (seen().text.equals("*")) {
            at++;
            Tree a = left;
            Tree b = part(within);
            left = of -> a.value(of) * b.value(of);
        }
        return left;
    }

    private Tree part(int within) {
        Token t = seen();
        boolean stands = t.isNumber() || t.isName() || VALUES.contains(t.text) || t.text.equals("not") || t.text.equals("(");
        if (!stands) {
            throw new Fault(1, t);
        }
        if (t.isName() && !names.contains(t.text)) {
            throw new Fault(2, t);
        }
        if (within == 5) {
            throw new Fault(5, t);
        }
        at++;
        if (t.text.equals("not")) {
            Tree a = part(within + 1);
            return of -> a.value(of) == 0 ? 1 : 0;
        }
        if (t.text.equals("(")) {
            Tree a = e(within + 1);
            pass(")");
            return a;
        }
        if (t.isNumber()) {
            int n = Integer.parseInt(t.text);
            return of -> n;
        }
        return of -> of.get(t.text);
    }

    int units(int t0, int t1, int zone, int line) {
        int sum = 0;
        int t = t0;
        Map<String, Integer> of = new HashMap<>();
        while (t < t1) {
            of.put("zone", zone);
            of.put("hour", t / 3600 % 24);
            of.put("day", t / 86400 % 7);
            of.put("lasted", t - t0);
            of.put("units", sum);
            of.put("line", line);
            int step = 60;
            for (Told told : lines) {
                if (told.name != null) {
                    of.put(told.name, told.e.value(of));
                } else if (told.e.value(of) != 0) {
                    sum += told.units;
                    step = told.each;
                    break;
                }
            }
            t += step;
        }
        return sum;
    }
}
