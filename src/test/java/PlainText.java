import java.util.ArrayList;
import java.util.List;
import java.util.function.Function;
import java.util.function.ToLongFunction;

/**
 * The two languages once more, read into trees instead of code, so that the class can be
 * held against another reading of the document. Null stands for BROKEN.
 */
final class PlainText {
    /** What a word is worth; "asked 3" is one word. */
    interface Words extends ToLongFunction<String> {
    }

    interface Sum extends Function<Words, Long> {
    }

    interface Test extends Function<Words, Boolean> {
    }

    record Clause(String opening, Sum sum, int times, Test test) {
    }

    private record Token(int at, String signs) {
    }

    private static final class Fault extends Exception {
        private static final long serialVersionUID = 1;
        final int at;

        Fault(int at) {
            this.at = at;
        }
    }

    private static final List<String> LAW_WORDS =
            List.of("question", "years", "sort", "age", "asked", "left", "tea", "day", "mood");
    private static final List<String> ORDERS_WORDS =
            List.of("day", "age", "done", "answer", "left", "tea", "asked");

    final List<Clause> clauses = new ArrayList<>();
    int fault = -1;

    private final List<Token> tokens = new ArrayList<>();
    private final boolean orders;
    private int next;
    private int parts;
    private int open;

    PlainText(String signs, boolean orders) {
        this.orders = orders;
        cut(signs);
        try {
            readAll();
        } catch (Fault f) {
            fault = f.at;
        }
    }

    private void cut(String signs) {
        java.util.regex.Matcher m =
                java.util.regex.Pattern.compile("[a-z]+|[0-9]+|[^ ]", java.util.regex.Pattern.DOTALL).matcher(signs);
        while (m.find()) {
            tokens.add(new Token(m.start(), m.group()));
        }
        tokens.add(new Token(signs.length(), ""));
    }

    private String look() {
        return tokens.get(next).signs;
    }

    private Fault faultHere() {
        return new Fault(tokens.get(next).at);
    }

    private boolean took(String signs) {
        if (look().equals(signs)) {
            next++;
            return true;
        }
        return false;
    }

    private void need(String signs) throws Fault {
        if (!took(signs)) {
            throw faultHere();
        }
    }

    private void readAll() throws Fault {
        do {
            if (clauses.size() == 12) {
                throw faultHere();
            }
            clauses.add(readClause());
        } while (took(";"));
        if (!look().isEmpty()) {
            throw faultHere();
        }
    }

    private Clause readClause() throws Fault {
        List<String> openings = orders ? List.of("ask", "pour", "pass", "hide") : List.of("ages", "turns", "bars");
        String opening = look();
        if (!openings.contains(opening)) {
            throw faultHere();
        }
        next++;
        Sum sum = List.of("ask", "pour", "hide", "ages").contains(opening) ? readSum() : w -> 0L;
        int times = 1;
        if (orders && took("times")) {
            times = readNumber(1, 20);
        }
        Test test = took("if") ? readTest() : w -> true;
        return new Clause(opening, sum, times, test);
    }

    private int readNumber(int least, int most) throws Fault {
        if (!look().matches("[0-9]+")) {
            throw faultHere();
        }
        java.math.BigInteger n = new java.math.BigInteger(look());
        if (n.compareTo(java.math.BigInteger.valueOf(most)) > 0 || n.intValue() < least) {
            throw faultHere();
        }
        next++;
        return n.intValue();
    }

    private Test readTest() throws Fault {
        Test left = readBoth();
        while (took("or")) {
            Test a = left;
            Test b = readBoth();
            left = w -> {
                Boolean first = a.apply(w);
                return first == null || first ? first : b.apply(w);
            };
        }
        return left;
    }

    private Test readBoth() throws Fault {
        Test left = readPlain();
        while (took("and")) {
            Test a = left;
            Test b = readPlain();
            left = w -> {
                Boolean first = a.apply(w);
                return first == null || !first ? first : b.apply(w);
            };
        }
        return left;
    }

    private Test readPlain() throws Fault {
        if (took("not")) {
            Test inner = readPlain();
            return w -> {
                Boolean b = inner.apply(w);
                return b == null ? null : !b;
            };
        }
        if (look().equals("(")) {
            openBracket();
            Test inner = readTest();
            need(")");
            open--;
            return inner;
        }
        Sum a = readSum();
        String sign = look();
        if (!List.of("<", ">", "=").contains(sign)) {
            throw faultHere();
        }
        next++;
        Sum b = readSum();
        return w -> {
            Long x = a.apply(w);
            Long y = x == null ? null : b.apply(w);
            if (y == null) {
                return null;
            }
            int c = Long.compare(x, y);
            return sign.equals("<") ? c < 0 : sign.equals(">") ? c > 0 : c == 0;
        };
    }

    private void openBracket() throws Fault {
        if (open == 8) {
            throw faultHere();
        }
        open++;
        next++;
    }

    private Sum readSum() throws Fault {
        Sum left = readTerm();
        while (List.of("+", "-").contains(look())) {
            String sign = look();
            next++;
            left = join(sign, left, readTerm());
        }
        return left;
    }

    private Sum readTerm() throws Fault {
        Sum left = readPart();
        while (List.of("*", "/", "%").contains(look())) {
            String sign = look();
            next++;
            left = join(sign, left, readPart());
        }
        return left;
    }

    private static Sum join(String sign, Sum a, Sum b) {
        return w -> {
            Long x = a.apply(w);
            Long y = x == null ? null : b.apply(w);
            if (y == null || y == 0 && "/%".contains(sign)) {
                return null;
            }
            long z = switch (sign) {
                case "+" -> x + y;
                case "-" -> x - y;
                case "*" -> x * y;
                case "/" -> x / y;
                default -> x % y;
            };
            return Math.abs(z) > 1_000_000_000L ? null : Long.valueOf(z);
        };
    }

    private Sum readPart() throws Fault {
        if (look().equals("[")) {
            openBracket();
            Sum inner = readSum();
            need("]");
            open--;
            return inner;
        }
        if (parts == 50) {
            throw faultHere();
        }
        if (look().matches("[0-9]+")) {
            long n = readNumber(0, 1000);
            parts++;
            return w -> n;
        }
        String word = look();
        if (!(orders ? ORDERS_WORDS : LAW_WORDS).contains(word)) {
            throw faultHere();
        }
        next++;
        parts++;
        if (orders && word.equals("asked")) {
            String whole = word + " " + readNumber(0, 7);
            return w -> w.applyAsLong(whole);
        }
        return w -> w.applyAsLong(word);
    }
}
