import java.util.ArrayList;
import java.util.List;
import java.util.Set;
import java.util.regex.Matcher;
import java.util.regex.Pattern;

/** Reads a text for the Model: tokens by a pattern, laws as trees, the first fault thrown. */
final class ModelReader {
    static final class Fault extends RuntimeException {
        private static final long serialVersionUID = 1;
        final int number, place;

        Fault(int number, int place) {
            this.number = number;
            this.place = place;
        }
    }

    private static final Pattern TOKEN =
        Pattern.compile("[ \n]*(?:([a-zA-Z]+)|([0-9]+)|(<=|>=|[<>=#+*/();-])|([^ \n])|$)", Pattern.DOTALL);
    private static final Set<String> NAMES =
        Set.of("day", "kept", "dear", "bulk", "owner", "from", "thing", "pence");

    private final List<String> tokens = new ArrayList<>();
    private final List<Integer> places = new ArrayList<>();
    private int at;
    private int open;
    private String clause;

    ModelReader(String text) {
        Matcher m = TOKEN.matcher(text);
        int from = 0;
        while (m.find(from) && m.end() > from && m.start() == from) {
            for (int g = 1; g <= 4; g++) {
                if (m.group(g) != null) {
                    tokens.add(g == 4 ? "?" : m.group(g));
                    places.add(m.start(g));
                }
            }
            from = m.end();
            if (from == text.length()) break;
        }
        tokens.add("");
        places.add(text.length());
    }

    private Fault fault(int number) {
        return new Fault(number, places.get(at));
    }

    private boolean is(String token) {
        return tokens.get(at).equals(token);
    }

    private void take(String token) {
        if (!is(token)) throw fault(1);
        at++;
    }

    private int number(int least, int most) {
        String t = tokens.get(at);
        if (t.isEmpty() || !Character.isDigit(t.charAt(0))) throw fault(1);
        java.math.BigInteger v = new java.math.BigInteger(t);
        if (v.compareTo(java.math.BigInteger.valueOf(most)) > 0) throw fault(2);
        if (v.intValue() < least) throw fault(2);
        at++;
        return v.intValue();
    }

    Model.Script script() {
        Model.Script s = new Model.Script();
        while (!is("")) {
            clause = tokens.get(at);
            boolean law = Set.of("dears", "after", "to", "brings").contains(clause);
            boolean act = Set.of("owner", "thing", "room", "steal", "send", "give", "day").contains(clause);
            if (!law && !act) throw fault(1);
            if (law && s.laws.containsKey(clause)) throw fault(4);
            if (s.clauses.size() == 24) throw fault(6);
            at++;
            int a = 0, b = 0, c = 0;
            if (law) {
                s.laws.put(clause, sum());
            } else {
                int[] top = switch (clause) {
                    case "owner" -> new int[] {0, 10};
                    case "thing", "room" -> new int[] {0, 99};
                    case "day" -> new int[] {1, 60};
                    default -> new int[] {0, 7};
                };
                a = number(top[0], top[1]);
                if (clause.equals("give")) {
                    take("to");
                    b = number(0, 5);
                }
                if (clause.equals("thing")) {
                    take("of");
                    b = number(0, 5);
                    take("bulk");
                    c = number(1, 9);
                }
            }
            take(";");
            s.clauses.add(new Object[] {clause, a, b, c});
        }
        return s;
    }

    private static long clip(long v) {
        return Math.max(-1000000, Math.min(1000000, v));
    }

    private Model.Sum sum() {
        Model.Sum left = product();
        while (is("+") || is("-")) {
            boolean plus = is("+");
            at++;
            Model.Sum a = left, b = product();
            left = m -> clip(plus ? a.of(m) + b.of(m) : a.of(m) - b.of(m));
        }
        return left;
    }

    private Model.Sum product() {
        Model.Sum left = one();
        while (is("*") || is("/")) {
            boolean times = is("*");
            at++;
            Model.Sum a = left, b = one();
            left = m -> clip(times ? a.of(m) * b.of(m) : b.of(m) == 0 ? 0 : a.of(m) / b.of(m));
        }
        return left;
    }

    private void opens() {
        if (open == 8) throw fault(3);
        open++;
        at++;
    }

    private Model.Sum one() {
        String t = tokens.get(at);
        if (!t.isEmpty() && Character.isDigit(t.charAt(0))) {
            int v = number(0, 9999);
            return m -> v;
        }
        if (NAMES.contains(t)) {
            if (t.equals("thing") && !clause.equals("to") && !clause.equals("brings")) throw fault(5);
            if (t.equals("pence") && !clause.equals("brings")) throw fault(5);
            at++;
            return m -> m.get(t);
        }
        Model.Sum result;
        switch (t) {
            case "(" -> {
                opens();
                result = sum();
                take(")");
            }
            case "-" -> {
                opens();
                Model.Sum a = one();
                result = m -> -a.of(m);
            }
            case "left" -> {
                opens();
                Model.Sum a = one();
                take("of");
                Model.Sum b = one();
                result = m -> b.of(m) == 0 ? 0 : Math.floorMod(a.of(m), Math.abs(b.of(m)));
            }
            case "if" -> {
                opens();
                Model.Ask c = either();
                take("then");
                Model.Sum a = sum();
                take("else");
                Model.Sum b = sum();
                take("end");
                result = m -> c.of(m) ? a.of(m) : b.of(m);
            }
            default -> throw fault(1);
        }
        open--;
        return result;
    }

    private Model.Ask either() {
        Model.Ask left = both();
        while (is("or")) {
            at++;
            Model.Ask a = left, b = both();
            left = m -> a.of(m) | b.of(m);
        }
        return left;
    }

    private Model.Ask both() {
        Model.Ask left = ask();
        while (is("and")) {
            at++;
            Model.Ask a = left, b = ask();
            left = m -> a.of(m) & b.of(m);
        }
        return left;
    }

    private Model.Ask ask() {
        if (is("not")) {
            opens();
            Model.Ask a = ask();
            open--;
            return m -> !a.of(m);
        }
        Model.Sum a = sum();
        String sign = tokens.get(at);
        if (!Set.of("<", "<=", ">", ">=", "=", "#").contains(sign)) throw fault(1);
        at++;
        Model.Sum b = sum();
        return m -> {
            long d = a.of(m) - b.of(m);
            return switch (sign) {
                case "<" -> d < 0;
                case "<=" -> d <= 0;
                case ">" -> d > 0;
                case ">=" -> d >= 0;
                case "=" -> d == 0;
                default -> d != 0;
            };
        };
    }
}
