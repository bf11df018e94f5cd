import java.util.ArrayDeque;
import java.util.ArrayList;
import java.util.Deque;
import java.util.HashMap;
import java.util.List;
import java.util.Map;

/** The document once more, in its plainest form and by brute force, to hold the class against. */
final class PlainHut {
    private static final int NONE = -1;

    private record Question(int years, int sort, int answers) {
        int answer(int t) {
            return answers >> 2 * t & 3;
        }
    }

    /** All that an image keeps. */
    private static final class State {
        List<Integer> things = new ArrayList<>();
        List<Question> questions = new ArrayList<>();
        List<Integer> asked = new ArrayList<>();
        List<Integer> wants = new ArrayList<>();
        List<PlainText> laws = new ArrayList<>();
        int hidden = NONE;
        List<Integer> known = new ArrayList<>();
        int tea;
        int day;
        int mood;
        int age;
        int force = NONE;

        State copy() {
            State s = new State();
            s.things.addAll(things);
            s.questions.addAll(questions);
            s.asked.addAll(asked);
            s.wants.addAll(wants);
            s.laws.addAll(laws);
            s.hidden = hidden;
            s.known.addAll(known);
            s.tea = tea;
            s.day = day;
            s.mood = mood;
            s.age = age;
            s.force = force;
            return s;
        }

        PlainText law() {
            return force == NONE ? null : laws.get(force);
        }

        void allKnown() {
            known.clear();
            for (int t = 0; t < things.size(); t++) {
                known.add(t);
            }
        }
    }

    private record Undone(int kind, State before) {
    }

    private State now = new State();
    private final Deque<Undone> past = new ArrayDeque<>();
    private final StringBuilder tape = new StringBuilder();
    private final State[] images = new State[2];
    private State huts;
    private final Map<Integer, Integer> refusals = new HashMap<>();
    private int status;
    private int fault = NONE;
    private int stopped = NONE;
    private int hens;
    private int seed;

    // ---- the law

    private static PlainText.Words words(State s, int q, int age, int asked, int left) {
        return w -> switch (w) {
            case "question" -> q;
            case "years" -> s.questions.get(q).years;
            case "sort" -> s.questions.get(q).sort;
            case "age" -> age;
            case "asked" -> asked;
            case "left" -> left;
            case "tea" -> s.tea;
            case "day" -> s.day;
            case "mood" -> s.mood;
            default -> throw new IllegalStateException(w);
        };
    }

    private static PlainText.Words words(State s, int q) {
        return words(s, q, s.age, s.asked.get(q), s.known.size());
    }

    private static int years(PlainText law, State s, int q, PlainText.Words w) {
        int years = s.questions.get(q).years;
        if (law != null) {
            for (PlainText.Clause c : law.clauses) {
                if (c.opening().equals("ages") && Boolean.TRUE.equals(c.test().apply(w))) {
                    Long sum = c.sum().apply(w);
                    if (sum != null) {
                        years = (int) Math.max(0, Math.min(99, sum));
                    }
                }
            }
        }
        return years;
    }

    private static boolean holds(PlainText law, String opening, PlainText.Words w) {
        return law != null && law.clauses.stream()
                .anyMatch(c -> c.opening().equals(opening) && Boolean.TRUE.equals(c.test().apply(w)));
    }

    // ---- acts

    private static int act(State s, int kind, int value) {
        switch (kind) {
            case 0: return actAsk(s, value);
            case 1:
                if (value < 1 || value > 9) {
                    return -1;
                }
                s.tea = Math.min(99, s.tea + value);
                return s.tea;
            case 2:
                if (s.day == 999) {
                    return -3;
                }
                s.day++;
                s.tea = Math.max(0, s.tea - 1);
                return s.day;
            default:
                if (value < -1 || value >= s.things.size()) {
                    return -2;
                }
                s.hidden = value;
                s.allKnown();
                s.asked.replaceAll(n -> 0);
                return s.known.size();
        }
    }

    private static int actAsk(State s, int q) {
        if (q < 0 || q >= s.questions.size()) {
            return -2;
        }
        PlainText.Words w = words(s, q);
        int years = years(s.law(), s, q, w);
        if (s.hidden == NONE || holds(s.law(), "bars", w) || s.age + years > 9999) {
            return -3;
        }
        Question question = s.questions.get(q);
        int turn = holds(s.law(), "turns", w) ? 1 : 0;
        int answer = (question.answer(s.hidden) + turn) % 4;
        s.known.removeIf(t -> (question.answer(t) + turn) % 4 != answer);
        s.age += years;
        s.asked.set(q, Math.min(999, s.asked.get(q) + 1));
        return answer;
    }

    private int actNow(int kind, int value) {
        State before = now.copy();
        int came = act(now, kind, value);
        if (came >= 0) {
            past.addLast(new Undone(kind, before));
            if (past.size() > 16) {
                past.removeFirst();
            }
        }
        return came;
    }

    private int said(int answer, boolean refused) {
        status = refused ? answer : 0;
        if (refused) {
            refusals.merge(answer, 1, Integer::sum);
        }
        return answer;
    }

    private int refuse(int why) {
        return said(why, true);
    }

    private int grant(int answer) {
        return said(answer, false);
    }

    private static int bits(List<Integer> numbers) {
        return numbers.stream().mapToInt(n -> 1 << n).sum();
    }

    private boolean noQuestion(int q) {
        return q < 0 || q >= now.questions.size();
    }

    private boolean noThing(int t) {
        return t < 0 || t >= now.things.size();
    }

    private static boolean canBe(int years, int sort, int answers) {
        return years >= 0 && years <= 99 && (sort == 0 || sort == 1) && answers >= 0 && answers <= 65535;
    }

    int call(String name, int... a) {
        switch (name) {
            case "thing": return thing(a[0]);
            case "question": return question(a[0], a[1], a[2]);
            case "of": return of(a[0], a[1]);
            case "visitor": return visitor(a[0]);
            case "terms": return terms(a[0], a[1]);
            case "feed": return feed(a);
            case "end":
                if (a[0] < 0 || a[0] > tape.length()) {
                    return NONE;
                }
                tape.setLength(a[0]);
                return a[0];
            case "row": return row();
            case "hens": return hens;
            case "law": return law();
            case "orders": return orders();
            case "fault": return fault;
            case "stopped": return stopped;
            case "force": return force(a[0]);
            case "ask": return acted(actNow(0, a[0]));
            case "pour": return acted(actNow(1, a[0]));
            case "pass": return acted(actNow(2, 0));
            case "hide": return acted(actNow(3, a[0]));
            case "undo": return undo();
            case "known": return known(a[0]);
            case "odds": return odds(a[0], a[1]);
            case "worst": return plan(a[0], a[1], a[2], false);
            case "mean": return plan(a[0], a[1], a[2], true);
            case "heap": return heap(a[0]);
            case "apart": return apart(a[0], a[1]);
            case "order": return order(a[0], a[1]);
            case "guess": return guess(a[0], a[1], a[2], a[3]);
            case "share": return share(a[0]);
            case "compare": return compare(a[0]);
            case "huts": return huts(a[0], a[1]);
            case "drawn": return drawn(a[0]);
            case "image": return image(a[0]);
            case "back": return back(a[0]);
            case "count": return count(a[0]);
            case "status": return status;
            default: throw new IllegalStateException(name);
        }
    }

    private int acted(int came) {
        return came < 0 ? refuse(came) : grant(came);
    }

    private int thing(int weight) {
        if (weight < 1 || weight > 99) {
            return refuse(-1);
        }
        if (now.things.size() == 8) {
            return refuse(-5);
        }
        now.things.add(weight);
        now.allKnown();
        past.clear();
        return grant(now.things.size() - 1);
    }

    private void add(int years, int sort, int answers) {
        now.questions.add(new Question(years, sort, answers));
        now.asked.add(0);
    }

    private int question(int years, int sort, int answers) {
        if (!canBe(years, sort, answers)) {
            return refuse(-1);
        }
        if (now.questions.size() == 8) {
            return refuse(-5);
        }
        add(years, sort, answers);
        past.clear();
        return grant(now.questions.size() - 1);
    }

    private int of(int q, int what) {
        if (noQuestion(q)) {
            return NONE;
        }
        PlainText.Words w = words(now, q);
        return switch (what) {
            case 0 -> now.questions.get(q).years;
            case 1 -> now.questions.get(q).sort;
            case 2 -> now.asked.get(q);
            case 3 -> years(now.law(), now, q, w);
            case 4 -> holds(now.law(), "turns", w) ? 1 : 0;
            case 5 -> holds(now.law(), "bars", w) ? 1 : 0;
            default -> noThing(what - 6) ? NONE : now.questions.get(q).answer(what - 6);
        };
    }

    private int visitor(int want) {
        if (want < 0 || want > 255) {
            return refuse(-1);
        }
        if (now.wants.size() == 6) {
            return refuse(-5);
        }
        now.wants.add(want);
        return grant(now.wants.size() - 1);
    }

    private int terms(int what, int value) {
        int[] most = {999, 9, 9999};
        if (what < 0 || what > 2 || value < 0 || value > most[what]) {
            return refuse(-1);
        }
        int was = what == 0 ? now.day : what == 1 ? now.mood : now.age;
        if (what == 0) {
            now.day = value;
        } else if (what == 1) {
            now.mood = value;
        } else {
            now.age = value;
        }
        past.clear();
        return grant(was);
    }

    private int feed(int[] numbers) {
        if (tape.length() > 380) {
            return NONE;
        }
        for (int n : numbers) {
            for (byte b : java.nio.ByteBuffer.allocate(4).putInt(n).array()) {
                tape.append((char) (b & 255));
            }
        }
        return tape.length();
    }

    private int row() {
        if (tape.length() == 0) {
            return refuse(-6);
        }
        hens = 0;
        int came = 0;
        for (int at = 0; at < tape.length(); at += 4) {
            if (at + 4 <= tape.length() && now.questions.size() < 8
                    && canBe(tape.charAt(at), tape.charAt(at + 1), 256 * tape.charAt(at + 2) + tape.charAt(at + 3))) {
                add(tape.charAt(at), tape.charAt(at + 1), 256 * tape.charAt(at + 2) + tape.charAt(at + 3));
                came++;
            } else {
                hens++;
            }
        }
        tape.setLength(0);
        past.clear();
        return grant(came);
    }

    private PlainText read(boolean orders) {
        PlainText text = new PlainText(tape.toString(), orders);
        tape.setLength(0);
        fault = text.fault;
        return text;
    }

    private int law() {
        if (now.laws.size() == 6) {
            tape.setLength(0);
            return refuse(-5);
        }
        PlainText text = read(false);
        if (text.fault != NONE) {
            return refuse(-6);
        }
        now.laws.add(text);
        return grant(now.laws.size() - 1);
    }

    private int orders() {
        stopped = NONE;
        PlainText text = read(true);
        if (text.fault != NONE) {
            return refuse(-6);
        }
        State before = now.copy();
        List<Undone> pastBefore = new ArrayList<>(past);
        int done = run(text);
        if (stopped == NONE) {
            return grant(done);
        }
        now = before;
        past.clear();
        past.addAll(pastBefore);
        return refuse(-3);
    }

    private int run(PlainText text) {
        int[] seen = {0, NONE};
        PlainText.Words w = word -> switch (word) {
            case "day" -> now.day;
            case "age" -> now.age;
            case "done" -> seen[0];
            case "answer" -> seen[1];
            case "left" -> now.known.size();
            case "tea" -> now.tea;
            default -> noQuestion(word.charAt(6) - '0') ? NONE : now.asked.get(word.charAt(6) - '0');
        };
        for (int i = 0; i < text.clauses.size(); i++) {
            PlainText.Clause c = text.clauses.get(i);
            for (int n = 0; n < c.times(); n++) {
                if (!Boolean.TRUE.equals(c.test().apply(w))) {
                    continue;
                }
                Long sum = c.sum().apply(w);
                int kind = List.of("ask", "pour", "pass", "hide").indexOf(c.opening());
                int came = sum == null ? -3 : actNow(kind, sum.intValue());
                if (came < 0) {
                    stopped = i;
                    return seen[0];
                }
                seen[0]++;
                seen[1] = kind == 0 ? came : seen[1];
            }
        }
        return seen[0];
    }

    private int force(int law) {
        if (law < -1 || law >= now.laws.size()) {
            return refuse(-2);
        }
        int was = now.force;
        now.force = law;
        return grant(was);
    }

    private int undo() {
        if (past.isEmpty()) {
            return refuse(-3);
        }
        Undone last = past.removeLast();
        now.hidden = last.before.hidden;
        now.known = new ArrayList<>(last.before.known);
        now.asked = new ArrayList<>(last.before.asked);
        now.tea = last.before.tea;
        now.day = last.before.day;
        now.age = last.before.age;
        return grant(last.kind);
    }

    private int known(int what) {
        return switch (what) {
            case 0 -> bits(now.known);
            case 1 -> now.known.stream().mapToInt(now.things::get).sum();
            case 2 -> now.known.size() == 1 ? now.known.get(0) : NONE;
            default -> NONE;
        };
    }

    private int odds(int q, int answer) {
        if (noQuestion(q) || answer < 0 || answer > 3) {
            return NONE;
        }
        int turn = holds(now.law(), "turns", words(now, q)) ? 1 : 0;
        return now.known.stream().filter(t -> (now.questions.get(q).answer(t) + turn) % 4 == answer)
                .mapToInt(now.things::get).sum();
    }

    // ---- on paper

    private int plan(int goal, int sort, int what, boolean mean) {
        if (goal < -1 || goal >= 1 << now.things.size() || sort < 0 || sort > 1 || what < 0 || what > 1) {
            return NONE;
        }
        int[] best = best(now.known, goal, sort, mean, now.law(), new HashMap<>());
        return best == null ? NONE : best[what];
    }

    /** The least and the first question; null: it can't be. */
    private int[] best(List<Integer> left, int goal, int sort, boolean mean, PlainText law,
            Map<List<Integer>, int[]> seen) {
        long within = left.stream().filter(t -> goal != NONE && (goal >> t & 1) == 1).count();
        if (goal == NONE ? left.size() < 2 : within == 0 || within == left.size()) {
            return new int[] {0, 100};
        }
        if (seen.containsKey(left)) {
            return seen.get(left);
        }
        int[] best = null;
        int weight = left.stream().mapToInt(now.things::get).sum();
        for (int q = 0; q < now.questions.size(); q++) {
            int asked = q;
            PlainText.Words w = words(now, q, now.age, now.asked.get(q), left.size());
            if (sort == 1 && now.questions.get(q).sort != 1 || holds(law, "bars", w)) {
                continue;
            }
            int years = years(law, now, q, w);
            int most = 0;
            int sum = 0;
            boolean can = true;
            for (int answer = 0; answer < 4 && can; answer++) {
                int a = answer;
                List<Integer> rest = left.stream().filter(t -> now.questions.get(asked).answer(t) == a).toList();
                int[] behind = rest.size() == left.size() ? null : best(rest, goal, sort, mean, law, seen);
                can = behind != null;
                most = can ? Math.max(most, behind[0]) : 0;
                sum += can ? behind[0] : 0;
            }
            int all = mean ? years * weight + sum : years + most;
            if (can && (best == null || all < best[0])) {
                best = new int[] {all, q};
            }
        }
        seen.put(left, best);
        return best;
    }

    private int heap(int what) {
        int best = NONE;
        int which = NONE;
        for (int set = 0; set < 1 << now.questions.size(); set++) {
            java.util.Set<String> rows = new java.util.HashSet<>();
            for (int t : now.known) {
                StringBuilder answers = new StringBuilder();
                for (int q = 0; q < now.questions.size(); q++) {
                    answers.append((set >> q & 1) == 1 ? now.questions.get(q).answer(t) : 9);
                }
                rows.add(answers.toString());
            }
            int years = 0;
            boolean barred = false;
            for (int q = 0; q < now.questions.size(); q++) {
                if ((set >> q & 1) == 1) {
                    years += years(now.law(), now, q, words(now, q));
                    barred |= holds(now.law(), "bars", words(now, q));
                }
            }
            if (!barred && rows.size() == now.known.size() && (best == NONE || years < best)) {
                best = years;
                which = set;
            }
        }
        return what == 0 ? best : what == 1 ? which : NONE;
    }

    private int apart(int one, int other) {
        if (noThing(one) || noThing(other)) {
            return NONE;
        }
        int best = NONE;
        for (int q = now.questions.size() - 1; q >= 0; q--) {
            if (now.questions.get(q).answer(one) != now.questions.get(q).answer(other)
                    && (best == NONE || of(q, 3) <= of(best, 3))) {
                best = q;
            }
        }
        return best;
    }

    private int order(int questions, int i) {
        if (questions < 0 || questions >= 1 << now.questions.size() || Integer.bitCount(questions) > 7
                || i < NONE || i >= Integer.bitCount(questions)) {
            return NONE;
        }
        List<Integer> told = new ArrayList<>();
        for (int q = 0; q < 8; q++) {
            if ((questions >> q & 1) == 1) {
                told.add(q);
            }
        }
        int[][] best = new int[1][];
        permute(told, new ArrayList<>(), now.age, best);
        return best[0] == null ? NONE : best[0][i + 1];
    }

    /** best[0]: the years, then the row. */
    private void permute(List<Integer> rest, List<Integer> row, int age, int[][] best) {
        if (rest.isEmpty()) {
            if (best[0] == null || age - now.age < best[0][0]) {
                best[0] = new int[row.size() + 1];
                best[0][0] = age - now.age;
                for (int i = 0; i < row.size(); i++) {
                    best[0][i + 1] = row.get(i);
                }
            }
            return;
        }
        for (int q : rest) {
            PlainText.Words w = words(now, q, age, now.asked.get(q), now.known.size());
            int then = age + years(now.law(), now, q, w);
            if (holds(now.law(), "bars", w) || then > 9999) {
                continue;
            }
            List<Integer> others = new ArrayList<>(rest);
            others.remove(Integer.valueOf(q));
            List<Integer> longer = new ArrayList<>(row);
            longer.add(q);
            permute(others, longer, then, best);
        }
    }

    private int guess(int from, int k, int i, int place) {
        if (from < 0 || from > 9999 || k < 0 || k > 3 || i < -1) {
            return NONE;
        }
        int n = now.questions.size();
        List<int[]> rows = new ArrayList<>();
        int all = (int) Math.round(Math.pow(n, k));
        for (int number = 0; number < all; number++) {
            int[] row = new int[k];
            int rest = number;
            for (int p = k - 1; p >= 0; p--) {
                row[p] = rest % n;
                rest /= n;
            }
            int age = from;
            List<Integer> asked = new ArrayList<>(now.asked);
            for (int q : row) {
                age += years(now.law(), now, q, words(now, q, age, asked.get(q), now.known.size()));
                asked.set(q, Math.min(999, asked.get(q) + 1));
            }
            if (age == now.age) {
                rows.add(row);
            }
        }
        if (i == NONE) {
            return rows.size();
        }
        return i < rows.size() && place >= 0 && place < k ? rows.get(i)[place] : NONE;
    }

    private int share(int v) {
        if (v < 0 || v >= now.wants.size()) {
            return NONE;
        }
        int share = 0;
        for (int q = 0; q < now.questions.size(); q++) {
            int asking = q;
            if ((now.wants.get(v) >> q & 1) == 1) {
                share += 60 * of(q, 3) / (int) now.wants.stream().filter(w -> (w >> asking & 1) == 1).count();
            }
        }
        return share;
    }

    private int compare(int law) {
        if (law < -1 || law >= now.laws.size()) {
            return NONE;
        }
        int[] best = best(now.known, NONE, 0, false, law == NONE ? null : now.laws.get(law), new HashMap<>());
        return best == null ? NONE : best[0];
    }

    private int draw(int m) {
        seed = (int) ((seed * 1103L + 12345) % 1000003);
        return seed % m;
    }

    private int huts(int from, int n) {
        if (from < 0 || from > 1000000 || n < 1 || n > 40) {
            return refuse(-1);
        }
        if (now.things.isEmpty() || now.questions.isEmpty()) {
            return refuse(-3);
        }
        State s = now.copy();
        seed = from;
        int alone = 0;
        for (int visit = 0; visit < n; visit++) {
            if (s.day == 999) {
                break;
            }
            act(s, 3, draw(s.things.size()));
            for (int i = 0; i < 8; i++) {
                if (s.known.size() > 1) {
                    act(s, 0, draw(s.questions.size()));
                }
            }
            alone += s.known.size() == 1 ? 1 : 0;
            act(s, 2, 0);
        }
        huts = s;
        return grant(alone);
    }

    private int drawn(int what) {
        if (huts == null || what < 0 || what >= 4 + huts.questions.size()) {
            return NONE;
        }
        return switch (what) {
            case 0 -> huts.age;
            case 1 -> huts.day;
            case 2 -> huts.tea;
            case 3 -> bits(huts.known);
            default -> huts.asked.get(what - 4);
        };
    }

    private int image(int k) {
        if (k < 0 || k > 1) {
            return refuse(-1);
        }
        images[k] = now.copy();
        return grant(0);
    }

    private int back(int k) {
        if (k < 0 || k > 1) {
            return refuse(-1);
        }
        if (images[k] == null) {
            return refuse(-2);
        }
        now = images[k].copy();
        past.clear();
        return grant(0);
    }

    private int count(int what) {
        return switch (what) {
            case 0 -> now.things.size();
            case 1 -> now.questions.size();
            case 2 -> now.wants.size();
            case 3 -> now.hidden;
            case 4 -> now.tea;
            case 5 -> now.laws.size();
            case 6 -> past.size();
            case 7 -> tape.length();
            case 8 -> refusals.getOrDefault(-1, 0);
            case 9 -> refusals.getOrDefault(-2, 0);
            case 10 -> refusals.getOrDefault(-3, 0);
            case 11 -> refusals.getOrDefault(-5, 0);
            case 12 -> refusals.getOrDefault(-6, 0);
            case 13 -> now.force;
            case 14 -> now.day;
            case 15 -> now.mood;
            case 16 -> now.age;
            default -> NONE;
        };
    }
}
