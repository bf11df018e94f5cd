import java.util.Random;

/** Texts of both languages by chance, most of them right. */
final class RandomText {
    private static final String[] LAW_WORDS =
            {"question", "years", "sort", "age", "asked", "left", "tea", "day", "mood"};
    private static final String[] ORDERS_WORDS = {"day", "age", "done", "answer", "left", "tea", "asked"};

    private final Random random;
    private boolean orders;
    private int budget;

    RandomText(Random random) {
        this.random = random;
    }

    private int below(int n) {
        return random.nextInt(n);
    }

    String law() {
        orders = false;
        return whole();
    }

    /** A law by which it matters much in what order she is asked. */
    String aging() {
        String ages = "ages [age*" + (1 + below(20)) + "+question*" + below(50) + "+asked*" + below(9) + "]%"
                + (2 + below(110));
        return below(2) == 0 ? ages : ages + ";bars if age%" + (2 + below(9)) + "=question";
    }

    String orders() {
        orders = true;
        return whole();
    }

    private String whole() {
        budget = 6 + below(20);
        int clauses = below(12) == 0 ? 10 + below(5) : 1 + below(4);
        StringBuilder all = new StringBuilder();
        for (int i = 0; i < clauses; i++) {
            all.append(i == 0 ? "" : ";").append(below(4) == 0 ? " " : "").append(clause());
        }
        return all.length() > 400 ? all.substring(0, 400) : all.toString();
    }

    private String clause() {
        String opening;
        if (orders) {
            int kind = below(9);
            opening = kind < 4 ? "ask " + (below(3) == 0 ? sum(1) : String.valueOf(below(5)))
                    : kind < 6 ? "pour " + (below(3) == 0 ? sum(1) : String.valueOf(1 + below(9)))
                    : kind < 8 ? "pass" : "hide " + (below(3) == 0 ? sum(1) : String.valueOf(below(4)));
            opening += below(4) == 0 ? " times " + (1 + below(20)) : "";
        } else {
            int kind = below(7);
            opening = kind < 4 ? "ages " + sum(2) : kind < 5 ? "turns" : "bars";
        }
        return opening + (below(3) > 0 ? " if " + test(2) : "");
    }

    private String test(int depth) {
        String left = both(depth);
        return below(4) == 0 ? left + " or " + both(depth) : left;
    }

    private String both(int depth) {
        String left = plain(depth);
        return below(4) == 0 ? left + " and " + plain(depth) : left;
    }

    private String plain(int depth) {
        if (below(6) == 0) {
            return "not " + plain(depth);
        }
        if (depth > 0 && below(6) == 0) {
            return "(" + test(depth - 1) + ")";
        }
        return sum(depth) + "<>=".charAt(below(3)) + sum(depth);
    }

    private String sum(int depth) {
        StringBuilder all = new StringBuilder(part(depth));
        while (budget > 0 && below(3) == 0) {
            all.append("+-*/%".charAt(below(5))).append(part(depth));
        }
        return all.toString();
    }

    private String part(int depth) {
        budget--;
        if (depth > 0 && below(8) == 0) {
            return "[" + sum(depth - 1) + "]";
        }
        if (below(2) == 0) {
            return String.valueOf(below(5) == 0 ? below(1001) : below(8));
        }
        String word = orders ? ORDERS_WORDS[below(7)] : LAW_WORDS[below(9)];
        return orders && word.equals("asked") ? "asked " + below(8) : word;
    }

    /** One or two places of it gone, doubled or changed. */
    String spoilt(String right) {
        StringBuilder all = new StringBuilder(right);
        for (int n = 1 + below(2); n > 0 && all.length() > 0; n--) {
            int at = below(all.length());
            switch (below(3)) {
                case 0: all.deleteCharAt(at); break;
                case 1: all.insert(at, all.charAt(at)); break;
                default: all.setCharAt(at, " ;()[]=<>+-*/%x09A\u00e9\0".charAt(below(20))); break;
            }
        }
        return all.length() > 400 ? all.substring(0, 400) : all.toString();
    }
}
