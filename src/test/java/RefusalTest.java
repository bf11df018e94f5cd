import java.util.function.Supplier;
import java.util.function.ToIntFunction;

/** Calls that are REFUSED, or answer NONE: what they answer, and that they change nothing else. */
public final class RefusalTest {
    private static final Due DUE = new Due();
    private static final int LOW = Integer.MIN_VALUE;
    private static final int HIGH = Integer.MAX_VALUE;
    private static final int[] REFUSALS = {-1, -2, -3, -5, -6};

    private enum Scene {
        BARE(HutAnswers::new), MIDDLE(Scenes::middle), FULL(Scenes::full);

        private final Supplier<HutAnswers> maker;

        Scene(Supplier<HutAnswers> maker) {
            this.maker = maker;
        }
    }

    /** What a refused call may change: what is told of it. */
    private record Change(String call, int answer) {
    }

    public static void main(String[] args) {
        scenes();
        numbersThatCantBe();
        numbersOfTermsAndHuts();
        noSuch();
        cantBe();
        noRoom();
        textsAndRows();
        ordersThatCantBe();
        firstInThatOrder();
        noneByLooking();
        looking();
        tapeCalls();
        DUE.close("RefusalTest");
    }

    private static void refused(Scene scene, String what, int why, ToIntFunction<HutAnswers> call, Change... changes) {
        String name = scene + " " + what;
        HutAnswers x = scene.maker.get();
        Sight due = new Sight(scene.maker.get());
        DUE.same(name, call.applyAsInt(x), why);
        due.put("status()", why);
        for (int i = 0; i < REFUSALS.length; i++) {
            String counter = "count(" + (8 + i) + ")";
            due.put(counter, due.get(counter) + (REFUSALS[i] == why ? 1 : 0));
        }
        boolean tapeStays = true;
        for (Change c : changes) {
            due.put(c.call, c.answer);
            tapeStays &= !c.call.equals("count(7)");
        }
        due.hold(DUE, name, new Sight(x));
        depths(scene, name, x, tapeStays);
    }

    /** What no call tells at once: the bytes on the tape, what can be undone, the images. */
    private static void depths(Scene scene, String name, HutAnswers x, boolean tapeStays) {
        HutAnswers y = scene.maker.get();
        if (tapeStays) {
            DUE.same(name + ": a law by the tape", x.law(), y.law());
            DUE.same(name + ": its fault", x.fault(), y.fault());
        }
        for (int i = 0; i < 17; i++) {
            DUE.same(name + ": undo " + i, x.undo(), y.undo());
            DUE.same(name + ": what was ahead " + i, brief(x), brief(y));
        }
        for (int k = 0; k < 2; k++) {
            DUE.same(name + ": back " + k, x.back(k), y.back(k));
            DUE.same(name + ": image " + k, brief(x), brief(y));
        }
    }

    private static long brief(HutAnswers x) {
        long sum = x.known(0);
        for (int what : new int[] {0, 1, 2, 3, 4, 5, 6, 13, 14, 15, 16}) {
            sum = sum * 101 + x.count(what);
        }
        return sum * 101 + x.of(0, 2);
    }

    /** That the scenes are what they say, so that the tests by them mean something. */
    private static void scenes() {
        HutAnswers x = Scenes.middle();
        int[] middle = {4, 3, 2, 2, 4, 2, 5, 22, 0, 0, 1, 0, 2, 0, 41, 4};
        for (int what = 0; what < middle.length; what++) {
            DUE.same("middle: count(" + what + ")", x.count(what), middle[what]);
        }
        DUE.same("middle: age", x.count(16), 300 + 3 + 0 + 4 + 3 + 1 + 2);
        DUE.same("middle: known", x.known(0), 12);
        DUE.same("middle: fault", x.fault(), 6);
        DUE.same("middle: stopped", x.stopped(), 1);
        DUE.same("middle: hens", x.hens(), 2);
        DUE.isTrue("middle: huts", x.drawn(1) == 43);
        x = Scenes.full();
        int[] full = {8, 8, 6, 7, 99, 6, 16, 400, 0, 0, 0, 0, 0, 5, 999, 9, 9999};
        for (int what = 0; what < full.length; what++) {
            DUE.same("full: count(" + what + ")", x.count(what), full[what]);
        }
    }

    private static void numbersThatCantBe() {
        for (Scene s : Scene.values()) {
            for (int weight : new int[] {LOW, -1, 0, 100, 355, HIGH}) {
                refused(s, "thing(" + weight + ")", -1, x -> x.thing(weight));
            }
            for (int years : new int[] {LOW, -1, 100, 256, HIGH}) {
                refused(s, "question by years " + years, -1, x -> x.question(years, 0, 0));
            }
            for (int sort : new int[] {LOW, -1, 2, 257, HIGH}) {
                refused(s, "question by sort " + sort, -1, x -> x.question(0, sort, 0));
            }
            for (int answers : new int[] {LOW, -1, 65536, HIGH}) {
                refused(s, "question by answers " + answers, -1, x -> x.question(0, 0, answers));
            }
            for (int want : new int[] {LOW, -1, 256, HIGH}) {
                refused(s, "visitor(" + want + ")", -1, x -> x.visitor(want));
            }
            for (int cups : new int[] {LOW, -1, 0, 10, HIGH}) {
                refused(s, "pour(" + cups + ")", -1, x -> x.pour(cups));
            }
            for (int k : new int[] {LOW, -1, 2, HIGH}) {
                refused(s, "image(" + k + ")", -1, x -> x.image(k));
                refused(s, "back(" + k + ")", -1, x -> x.back(k));
            }
        }
    }

    private static void numbersOfTermsAndHuts() {
        int[] most = {999, 9, 9999};
        for (Scene s : Scene.values()) {
            for (int term = 0; term < 3; term++) {
                int what = term;
                for (int value : new int[] {LOW, -1, most[term] + 1, HIGH}) {
                    refused(s, "terms(" + term + ", " + value + ")", -1, x -> x.terms(what, value));
                }
            }
            for (int what : new int[] {LOW, -1, 3, HIGH}) {
                refused(s, "terms(" + what + ", 0)", -1, x -> x.terms(what, 0));
            }
            for (int seed : new int[] {LOW, -1, 1000001, HIGH}) {
                refused(s, "huts(" + seed + ", 1)", -1, x -> x.huts(seed, 1));
            }
            for (int n : new int[] {LOW, -1, 0, 41, HIGH}) {
                refused(s, "huts(0, " + n + ")", -1, x -> x.huts(0, n));
            }
        }
    }

    private static void noSuch() {
        for (Scene s : Scene.values()) {
            int things = s.maker.get().count(0);
            int questions = s.maker.get().count(1);
            int laws = s.maker.get().count(5);
            for (int q : new int[] {LOW, -2, -1, questions, 8, HIGH}) {
                refused(s, "ask(" + q + ")", -2, x -> x.ask(q));
            }
            for (int t : new int[] {LOW, -2, things, 8, HIGH}) {
                refused(s, "hide(" + t + ")", -2, x -> x.hide(t));
            }
            for (int law : new int[] {LOW, -2, laws, 6, HIGH}) {
                refused(s, "force(" + law + ")", -2, x -> x.force(law));
            }
        }
        refused(Scene.BARE, "back(0)", -2, x -> x.back(0));
        refused(Scene.BARE, "back(1)", -2, x -> x.back(1));
        refused(Scene.MIDDLE, "back(1)", -2, x -> x.back(1));
    }

    private static void cantBe() {
        refused(Scene.BARE, "undo()", -3, HutAnswers::undo);
        refused(Scene.BARE, "huts(0, 1)", -3, x -> x.huts(0, 1));
        refused(Scene.MIDDLE, "ask(0), barred", -3, x -> x.ask(0));
        refused(Scene.FULL, "ask(0), too old", -3, x -> x.ask(0));
        refused(Scene.FULL, "ask(7), barred", -3, x -> x.ask(7));
        refused(Scene.FULL, "pass()", -3, HutAnswers::pass);
    }

    private static void noRoom() {
        refused(Scene.FULL, "thing(1)", -5, x -> x.thing(1));
        refused(Scene.FULL, "question(0, 0, 0)", -5, x -> x.question(0, 0, 0));
        refused(Scene.FULL, "visitor(0)", -5, x -> x.visitor(0));
        refused(Scene.FULL, "law()", -5, HutAnswers::law, new Change("count(7)", 0));
    }

    /** The TAPE is empty behind a TEXT that can't be read, and the FAULT is its own. */
    private static void textsAndRows() {
        refused(Scene.BARE, "row()", -6, HutAnswers::row);
        Change empty = new Change("count(7)", 0);
        Change atStart = new Change("fault()", 0);
        Change notStopped = new Change("stopped()", -1);
        refused(Scene.BARE, "law()", -6, HutAnswers::law, empty, atStart);
        refused(Scene.BARE, "orders()", -6, HutAnswers::orders, empty, atStart);
        refused(Scene.MIDDLE, "orders()", -6, HutAnswers::orders, empty, atStart, notStopped);
        refused(Scene.MIDDLE, "law() of ages", -6, x -> lawOf(x, "ages"), empty, new Change("fault()", 4));
        refused(Scene.FULL, "orders() of hide", -6, x -> ordersOf(x, "pour 1;hide"), empty, new Change("fault()", 11));
    }

    private static int lawOf(HutAnswers x, String text) {
        x.end(0);
        return Due.law(x, text);
    }

    private static int ordersOf(HutAnswers x, String text) {
        x.end(0);
        return Due.orders(x, text);
    }

    private static void ordersRefused(Scene s, String text, int clause) {
        refused(s, "orders() of " + text, -3, x -> ordersOf(x, text),
                new Change("count(7)", 0), new Change("fault()", -1), new Change("stopped()", clause));
    }

    /** 'ends it: all is as it was ahead of it'. */
    private static void ordersThatCantBe() {
        ordersRefused(Scene.BARE, "pass times 20;pour 9;hide 0-1;pass;ask 0", 4);
        ordersRefused(Scene.BARE, "pour 9;hide 0", 1);
        ordersRefused(Scene.BARE, "pour 10", 0);
        ordersRefused(Scene.MIDDLE, "hide 1;ask 2;ask 1;pour 9;pass times 20;hide 0-1;ask 1", 6);
        ordersRefused(Scene.MIDDLE, "hide 1;ask 1 times 2;pass if done<0;ask 1;pass", 3);
        ordersRefused(Scene.MIDDLE, "pass;pour 1/[day-42]", 1);
        ordersRefused(Scene.MIDDLE, "hide 3;hide 4", 1);
        ordersRefused(Scene.MIDDLE, "hide 0-1;hide 0-2", 1);
        ordersRefused(Scene.FULL, "hide 0;pour 1 times 20;pass", 2);
        ordersRefused(Scene.FULL, "hide 0-1;ask 0", 1);
        ordersRefused(Scene.FULL, "pour 1 times 20;pour 1 times 20;ask 8", 2);
    }

    /** 'The first of these in that order.' */
    private static void firstInThatOrder() {
        refused(Scene.FULL, "thing(0) without room", -1, x -> x.thing(0));
        refused(Scene.FULL, "question(0, 2, 0) without room", -1, x -> x.question(0, 2, 0));
        refused(Scene.FULL, "visitor(256) without room", -1, x -> x.visitor(256));
        refused(Scene.BARE, "huts(0, 41) without things", -1, x -> x.huts(0, 41));
        refused(Scene.BARE, "back(2), not kept either", -1, x -> x.back(2));
        refused(Scene.BARE, "ask(0), nothing hidden either", -2, x -> x.ask(0));
        refused(Scene.FULL, "law() of a text that can't be", -5, x -> lawOf(x, "ages"), new Change("count(7)", 0));
        refused(Scene.FULL, "law() of an empty tape", -5, x -> lawOf(x, ""), new Change("count(7)", 0));
    }

    private static void looks(Scene scene, String what, int answer, ToIntFunction<HutAnswers> call) {
        HutAnswers x = scene.maker.get();
        Sight due = new Sight(scene.maker.get());
        DUE.same(scene + " " + what, call.applyAsInt(x), answer);
        due.hold(DUE, scene + " " + what, new Sight(x));
    }

    private static void none(String what, ToIntFunction<HutAnswers> call) {
        for (Scene s : Scene.values()) {
            looks(s, what, HutAnswers.NONE, call);
        }
    }

    /** Calls that answer NONE are not REFUSED: nothing is counted, status() stays. */
    private static void noneByLooking() {
        for (int n : new int[] {LOW, -2, 8, HIGH}) {
            none("of(" + n + ", 0)", x -> x.of(n, 0));
            none("odds(" + n + ", 0)", x -> x.odds(n, 0));
            none("apart(" + n + ", 0)", x -> x.apart(n, 0));
            none("apart(0, " + n + ")", x -> x.apart(0, n));
            none("share(" + n + ")", x -> x.share(n));
            none("compare(" + n + ")", x -> x.compare(n));
            none("known(" + n + ")", x -> x.known(n));
            none("heap(" + n + ")", x -> x.heap(n));
            none("odds(0, " + n + ")", x -> x.odds(0, n));
            none("worst(-1, " + n + ", 0)", x -> x.worst(-1, n, 0));
            none("worst(-1, 0, " + n + ")", x -> x.worst(-1, 0, n));
            none("mean(-1, " + n + ", 0)", x -> x.mean(-1, n, 0));
            none("mean(-1, 0, " + n + ")", x -> x.mean(-1, 0, n));
            none("guess(0, " + n + ", -1, 0)", x -> x.guess(0, n, -1, 0));
            none("order(0, " + n + ")", x -> x.order(0, n));
        }
        for (int n : new int[] {LOW, -2, 256, HIGH}) {
            none("worst(" + n + ", 0, 0)", x -> x.worst(n, 0, 0));
            none("mean(" + n + ", 0, 0)", x -> x.mean(n, 0, 0));
            none("order(" + n + ", -1)", x -> x.order(n, -1));
            none("drawn(" + n + ")", x -> x.drawn(n));
            none("count(" + n + ")", x -> x.count(n));
            none("of(0, " + n + ")", x -> x.of(0, n));
        }
        for (int age : new int[] {LOW, -1, 10000, HIGH}) {
            none("guess(" + age + ", 0, -1, 0)", x -> x.guess(age, 0, -1, 0));
        }
        none("guess(0, 1, -2, 0)", x -> x.guess(0, 1, -2, 0));
        none("guess(0, 1, 0, 1)", x -> x.guess(0, 1, 0, 1));
        none("guess(0, 1, 0, -1)", x -> x.guess(0, 1, 0, -1));
        none("guess(0, 3, 512, 0)", x -> x.guess(0, 3, 512, 0));
    }

    /** What is reckoned on paper leaves all as it is. */
    private static void looking() {
        looks(Scene.MIDDLE, "worst", 2 + 2, x -> x.worst(-1, 0, 0));
        looks(Scene.MIDDLE, "order", 2 + 2 + 6 + 2, x -> x.order(6, -1));
        looks(Scene.MIDDLE, "guess", 0, x -> x.guess(300, 3, -1, 0));
        looks(Scene.FULL, "worst", 8 + 7 + 6 + 5 + 4 + 3 + 2, x -> x.worst(-1, 0, 0));
        looks(Scene.FULL, "heap", 56, x -> x.heap(0));
        looks(Scene.FULL, "order", -1, x -> x.order(1, -1));
        looks(Scene.FULL, "compare", 7, x -> x.compare(0));
    }

    /** feed() and end() that answer NONE leave the TAPE as it was, and are never REFUSED. */
    private static void tapeCalls() {
        looks(Scene.FULL, "feed", -1, x -> x.feed(1, 2, 3, 4, 5));
        for (int n : new int[] {LOW, -1, 401, HIGH}) {
            none("end(" + n + ")", x -> x.end(n));
        }
        looks(Scene.MIDDLE, "end(23)", -1, x -> x.end(23));
        looks(Scene.MIDDLE, "end(22)", 22, x -> x.end(22));
        looks(Scene.BARE, "end(1)", -1, x -> x.end(1));
        looks(Scene.BARE, "end(0)", 0, x -> x.end(0));
    }
}
