/** Promises 1 to 36 but the texts, and what 'Terms' III reckons on paper: inside each edge, at it, beyond it. */
public final class EdgesOfCallsTest {
    private static final Due DUE = new Due();
    private static final int LOW = Integer.MIN_VALUE;
    private static final int HIGH = Integer.MAX_VALUE;

    public static void main(String[] args) {
        anEmptyHut();
        of();
        feed();
        end();
        rowAndHens();
        force();
        ask();
        undoKeepsSixteen();
        undoByOrders();
        undoIsWhole();
        undoAheadOf();
        known();
        odds();
        goals();
        goalsOfSome();
        sortsAndWhat();
        notAllAlike();
        dearestAnswers();
        asNowButLeft();
        mean();
        heap();
        heapByLaw();
        apart();
        orderPlaces();
        orderOfSeven();
        orderByAge();
        orderAmongAllRows();
        guessNumbers();
        guessRows();
        guessByLaw();
        share();
        compare();
        huts();
        drawn();
        drawnLater();
        count();
        refusalsAreCounted();
        statusOfEach();
        DUE.close("EdgesOfCallsTest");
    }

    private static void due(String what, long got, long want) {
        DUE.same(what, got, want);
    }

    /** Promise 1: 'An empty hut.' */
    private static void anEmptyHut() {
        HutAnswers x = new HutAnswers();
        for (int what = 0; what < 17; what++) {
            due("1: count(" + what + ")", x.count(what), what == 3 || what == 13 ? -1 : 0);
        }
        due("1: known", x.known(0) * 10 + x.known(1), 0);
        due("1: none alone", x.known(2), -1);
        due("1: no question", x.of(0, 0), -1);
        due("1: no odds", x.odds(0, 0), -1);
        due("1: no share", x.share(0), -1);
        due("1: none apart", x.apart(0, 0), -1);
        due("1: worst", x.worst(-1, 0, 0) * 1000 + x.worst(-1, 1, 1), 100);
        due("1: mean", x.mean(-1, 0, 0) * 1000 + x.mean(-1, 1, 1), 100);
        due("1: no goal of a thing that is not there", x.worst(1, 0, 0), -1);
        due("1: heap", x.heap(0) * 1000 + x.heap(1), 0);
        due("1: order", x.order(0, -1), 0);
        due("1: no order of a question that is not there", x.order(1, -1), -1);
        due("1: compare", x.compare(-1), 0);
        due("1: guess of nothing", x.guess(0, 0, -1, 0), 1);
        due("1: guess of one", x.guess(0, 1, -1, 0), 0);
        due("1: hens, fault, stopped, status", x.hens() + x.fault() + x.stopped() + x.status(), -2);
        due("1: hide none", x.hide(-1), 0);
        due("1: undone", x.undo(), 3);
        due("1: a day", x.pass(), 1);
    }

    /** Promise 4: 'the ANSWER of THING t (6 + t; of those there are). NONE.' */
    private static void of() {
        HutAnswers x = Scenes.plain(0, 0);
        x.question(12, 1, 65535);
        for (int things = 0; things <= 8; things++) {
            for (int what = 6; what < 16; what++) {
                due("4: " + things + " things, what " + what, x.of(0, what), what - 6 < things ? 3 : -1);
            }
            x.thing(1);
        }
        for (int what : new int[] {LOW, LOW + 5, -7, -1, 14, 15, HIGH}) {
            due("4: what " + what, x.of(0, what), -1);
        }
        for (int q : new int[] {LOW, -1, 1, 8, HIGH}) {
            for (int what = 0; what < 7; what++) {
                due("4: question " + q + ", what " + what, x.of(q, what), -1);
            }
        }
        int[] want = {12, 1, 0, 12, 0, 0};
        for (int what = 0; what < 6; what++) {
            due("4: without a law, what " + what, x.of(0, what), want[what]);
        }
    }

    /** Promise 7: 'Twenty bytes come behind the TAPE, four of each number, the highest first'. */
    private static void feed() {
        HutAnswers x = new HutAnswers();
        due("7: twenty", x.feed(0x74, 0x75000000, 0x726e7300, LOW, HIGH), 20);
        x.end(0);
        due("7: a law by bytes", x.feed(0x61676573, 0x20393920, 0x20202020, 0x20202020, 0x20202020), 20);
        due("7: ages 99", x.law(), 0);
        x.feed(0x61676573, 0x20353020, 0x20202020, 0x20202020, 0x2b202020);
        x.end(19);
        due("7: behind", x.feed(0x20323020, 0x20202020, 0x20202020, 0x20202020, 0x20202020), 39);
        due("7: the nineteenth and the twentieth", x.law(), 1);
        x.question(1, 0, 0);
        x.force(1);
        due("7: 50+20", x.of(0, 3), 70);
        x.feed(0xff000000, 0x00ff0000, 0x0000ff00, 0x000000ff, 0x01010203);
        due("7: three of five are questions", x.row(), 3);
        due("7: 255 years, sort 255", x.hens(), 2);
        for (int t = 0; t < 8; t++) {
            x.thing(1);
            due("7: the third number: its third byte for things 4 .. 7", x.of(1, 6 + t), t < 4 ? 0 : 3);
            due("7: the fourth number: its lowest byte for things 0 .. 3", x.of(2, 6 + t), t < 4 ? 3 : 0);
        }
        due("7: the fifth number", x.of(3, 0) * 1000 + x.of(3, 1) * 100 + x.of(3, 10) * 10 + x.of(3, 6), 1123);
    }

    /** Promise 8: 'NONE, if it has not so many, or n is below 0.' */
    private static void end() {
        HutAnswers x = new HutAnswers();
        due("8: an empty one", x.end(0), 0);
        due("8: one", x.end(1), -1);
        x.feed(0, 0, 0, 0, 0);
        for (int n : new int[] {LOW, -1, 21, 400, HIGH}) {
            due("8: " + n, x.end(n), -1);
            due("8: as it was", x.count(7), 20);
        }
        for (int n : new int[] {20, 19, 1, 0}) {
            due("8: " + n, x.end(n), n);
            due("8: so many", x.count(7), n);
            due("8: one more", x.end(n + 1), -1);
        }
    }

    /** Promises 9, 10: '-6 the TAPE is empty'; 'the latest row() .. that was not REFUSED (0 ahead of any)'. */
    private static void rowAndHens() {
        HutAnswers x = new HutAnswers();
        due("10: ahead of any", x.hens(), 0);
        due("9: empty", x.row(), -6);
        due("10: still", x.hens(), 0);
        Due.put(x, "\0\5\0\0\0");
        due("9: none came", x.row(), 0);
        due("9: not refused", x.status(), 0);
        due("10: two hens", x.hens(), 2);
        due("9: it is empty then", x.row(), -6);
        due("10: of the one not refused", x.hens(), 2);
        Due.put(x, "\0\1\0\0");
        due("9: one came", x.row(), 1);
        due("10: no hen", x.hens(), 0);
        Due.put(x, "\0\1\0\0".repeat(7));
        due("9: seven came", x.row(), 7);
        Due.put(x, "\0\1\0\0");
        due("9: no room is no refusal", x.row(), 0);
        due("9: not refused", x.status(), 0);
        due("10: a hen", x.hens(), 1);
    }

    /** Promise 15: 'A LAW is in FORCE (NONE: none): which was. -2.' */
    private static void force() {
        HutAnswers x = new HutAnswers();
        due("15: none, none was", x.force(-1), -1);
        due("15: not refused", x.status() + x.count(8) + x.count(9), 0);
        due("15: no such", x.force(0), -2);
        Due.law(x, "turns");
        for (int law : new int[] {LOW, -2, 1, HIGH}) {
            due("15: no law " + law, x.force(law), -2);
        }
        due("15: 0", x.force(0), -1);
        due("15: 0 again", x.force(0), 0);
        due("15: refused", x.force(1), -2);
        due("15: stays", x.count(13), 0);
        due("15: none", x.force(-1), 0);
        due("15: is none", x.count(13), -1);
    }

    /** Promise 16: 'To ASK: the answer. -2; -3.' */
    private static void ask() {
        HutAnswers x = Scenes.four();
        for (int q : new int[] {LOW, -1, 3, HIGH}) {
            due("16: no question " + q, x.ask(q), -2);
        }
        due("16: none hidden", x.ask(2), -3);
        x.hide(2);
        due("16: the last question", x.ask(2), 2);
        due("16: the first", x.ask(0), 1);
    }

    /** Promise 20: '16 are kept'. */
    private static void undoKeepsSixteen() {
        for (int acts : new int[] {0, 1, 15, 16, 17, 18, 33, 40}) {
            HutAnswers x = new HutAnswers();
            for (int i = 0; i < acts; i++) {
                x.pass();
            }
            int kept = Math.min(16, acts);
            due("20: kept of " + acts, x.count(6), kept);
            for (int i = 0; i < kept; i++) {
                due("20: a day", x.undo(), 2);
                due("20: what can still be undone", x.count(6), kept - 1 - i);
            }
            due("20: no more", x.undo(), -3);
            due("20: the days that stay", x.count(14), acts - kept);
            x.pour(1);
            due("20: one more act", x.count(6), 1);
            due("20: is undone", x.undo(), 1);
        }
    }

    /** Promise 20: 'by ORDERS, too'. */
    private static void undoByOrders() {
        HutAnswers x = Scenes.plain(2, 1);
        due("20: orders", Due.orders(x, "hide 0;pour 3;pass;ask 0;pass if 1=2"), 4);
        due("20: four", x.count(6), 4);
        int[] kinds = {0, 2, 1, 3};
        for (int kind : kinds) {
            due("20: " + kind, x.undo(), kind);
        }
        due("20: none", x.undo(), -3);
        x.pour(1);
        Due.orders(x, "pass times 16");
        due("20: sixteen by orders", x.count(6), 16);
        for (int i = 0; i < 16; i++) {
            x.undo();
        }
        due("20: the cup is no longer kept", x.undo(), -3);
        due("20: it stays", x.count(4), 1);
        x.pour(4);
        Due.orders(x, "pass times 20;pour 0");
        due("20: orders that can't be leave it", x.undo(), 1);
        due("20: the cup that was there", x.count(4), 1);
        x.pour(4);
        Due.orders(x, "pass;hide 7");
        Due.orders(x, "hide 0;pour 2");
        due("20: orders behind those", x.undo() * 10 + x.undo(), 13);
        due("20: and the cups ahead of them", x.undo(), 1);
    }

    /** Promise 20: each kind is undone wholly; what is no act stays. */
    private static void undoIsWhole() {
        HutAnswers x = Scenes.four();
        x.hide(3);
        x.ask(0);
        x.pour(9);
        Due.law(x, "ages 2");
        Sight[] ahead = new Sight[4];
        int[] kinds = {0, 1, 2, 3};
        for (int i = 0; i < 4; i++) {
            ahead[i] = new Sight(x);
            int came = i == 0 ? x.ask(1) : i == 1 ? x.pour(8) : i == 2 ? x.pass() : x.hide(0);
            due("20: act " + i, came < 0 ? 1 : 0, 0);
        }
        for (int i = 3; i >= 0; i--) {
            due("20: kind", x.undo(), kinds[i]);
            ahead[i].hold(DUE, "20: as it was ahead of " + i, new Sight(x));
        }
        x.hide(0);
        x.force(0);
        x.visitor(1);
        Due.law(x, "ages 3");
        x.image(0);
        x.huts(0, 2);
        due("20: what is no act forgets nothing", x.count(6), 4);
        due("20: hide", x.undo(), 3);
        due("20: the law in force stays", x.count(13), 0);
        due("20: the visitor", x.count(2), 1);
        due("20: the laws", x.count(5), 2);
        due("20: the thing hidden ahead", x.count(3), 3);
        due("20: the image", x.back(0), 0);
        due("20: nothing behind back()", x.undo(), -3);
    }

    /** Promise 20: 'nothing that was ahead of a thing(), question(), row(), terms() that was not REFUSED'. */
    private static void undoAheadOf() {
        HutAnswers x = new HutAnswers();
        x.pour(1);
        x.thing(1);
        due("20: ahead of a thing", x.undo(), -3);
        x.pour(1);
        x.question(1, 0, 0);
        due("20: ahead of a question", x.undo(), -3);
        x.pour(1);
        Due.put(x, "\0\0\0\0");
        x.row();
        due("20: ahead of a row", x.undo(), -3);
        x.pour(1);
        Due.put(x, "\0");
        x.row();
        due("20: ahead of a row of hens alone", x.undo(), -3);
        for (int what = 0; what < 3; what++) {
            x.pour(1);
            x.terms(what, x.count(14 + what));
            due("20: ahead of term " + what, x.undo(), -3);
        }
        x.pour(1);
        x.thing(0);
        x.thing(100);
        x.question(100, 0, 0);
        x.row();
        x.terms(0, 1000);
        x.terms(3, 0);
        due("20: not ahead of refused ones", x.undo(), 1);
        x.pour(1);
        x.terms(1, 1);
        x.pass();
        due("20: what is behind them is", x.undo(), 2);
        due("20: but no further", x.undo(), -3);
        for (int i = 0; i < 7; i++) {
            x.thing(1);
            x.question(0, 0, 0);
        }
        x.pass();
        x.thing(1);
        x.question(0, 0, 0);
        due("20: nor ahead of ones without room", x.undo(), 2);
    }

    /** Promise 21: 'the THING that is KNOWN alone (2; NONE: more, none). NONE.' */
    private static void known() {
        HutAnswers x = new HutAnswers();
        due("21: none", x.known(2), -1);
        x.thing(99);
        due("21: one alone", x.known(2), 0);
        due("21: its weight", x.known(1), 99);
        x.thing(98);
        due("21: two", x.known(2), -1);
        due("21: their weight", x.known(1), 197);
        for (int i = 2; i < 8; i++) {
            x.thing(99);
        }
        due("21: all eight", x.known(0), 255);
        due("21: weight of eight", x.known(1), 7 * 99 + 98);
        for (int t = 0; t < 8; t++) {
            x.question(0, 0, 1 << 2 * t);
            x.hide(t);
            x.ask(t);
            due("21: thing " + t + " alone", x.known(2), t);
            due("21: as bits", x.known(0), 1 << t);
        }
        for (int what : new int[] {LOW, -1, 3, HIGH}) {
            due("21: what " + what, x.known(what), -1);
        }
    }

    /** Promise 22: 'an answer 0 .. 3 to a QUESTION. NONE.' */
    private static void odds() {
        HutAnswers x = Scenes.four();
        int[] want = {5, 3, 2, 10};
        for (int answer = 0; answer < 4; answer++) {
            due("22: answer " + answer, x.odds(2, answer), want[answer]);
            due("22: no question 3", x.odds(3, answer), -1);
            due("22: no question -1", x.odds(-1, answer), -1);
        }
        for (int answer : new int[] {LOW, -1, 4, HIGH}) {
            due("22: no answer " + answer, x.odds(2, answer), -1);
        }
        Due.law(x, "turns if left=4");
        x.force(0);
        for (int answer = 0; answer < 4; answer++) {
            due("22: turned, answer " + answer, x.odds(2, answer), want[(answer + 3) % 4]);
        }
        x.hide(0);
        x.ask(0);
        due("22: two known, not turned", x.odds(2, 0) * 10 + x.odds(2, 1), 53);
        due("22: none of the known", x.odds(2, 3), 0);
    }

    /** Promise 23: 'a GOAL (NONE: which it is)'; '100: none is needed'; 'NONE (it can't be)'. */
    private static void goals() {
        HutAnswers x = Scenes.four();
        for (int goal : new int[] {LOW, -3, -2, 16, 17, 255, HIGH}) {
            for (int what = 0; what < 2; what++) {
                due("23: goal " + goal, x.worst(goal, 0, what), -1);
                due("24: goal " + goal, x.mean(goal, 0, what), -1);
            }
        }
        for (int goal : new int[] {0, 15}) {
            due("23: goal " + goal + " is known at once", x.worst(goal, 0, 0), 0);
            due("23: none is needed", x.worst(goal, 1, 1), 100);
            due("24: goal " + goal + " is known at once", x.mean(goal, 0, 0), 0);
            due("24: none is needed", x.mean(goal, 1, 1), 100);
        }
        HutAnswers y = Scenes.plain(8, 0);
        due("23: all eight", y.worst(255, 0, 1), 100);
        due("23: there is no ninth", y.worst(256, 0, 1), -1);
        due("23: seven of eight, no question", y.worst(254, 0, 0), -1);
        due("23: which, no question", y.worst(-1, 0, 1), -1);
        HutAnswers z = Scenes.plain(1, 1);
        due("23: one thing", z.worst(-1, 0, 0) * 1000 + z.worst(-1, 0, 1), 100);
        due("23: whether it is that one", z.worst(1, 0, 1), 100);
        due("24: one thing", z.mean(-1, 0, 0) * 1000 + z.mean(-1, 0, 1), 100);
        z.thing(1);
        due("23: two alike", z.worst(-1, 0, 0), -1);
        due("24: two alike", z.mean(-1, 0, 1), -1);
        z.question(0, 0, Due.answers(0, 1));
        due("23: no years, yet a question", z.worst(-1, 0, 0) * 1000 + z.worst(-1, 0, 1), 1);
        due("24: no years, yet a question", z.mean(-1, 0, 0) * 1000 + z.mean(-1, 0, 1), 1);
    }

    /** 'a GOAL: some THINGS as bits: to know whether it is one of them'; from KNOWN. */
    private static void goalsOfSome() {
        HutAnswers x = Scenes.four();
        int[] worst = {0, 5, 5, 3, 5, 2, 5, 5, 5, 5, 2, 5, 3, 5, 5, 0};
        for (int goal = 0; goal < 16; goal++) {
            due("23: goal " + goal, x.worst(goal, 0, 0), worst[goal]);
        }
        due("23: 0 or 3, by 0 then 1", x.worst(9, 0, 1), 0);
        x.hide(0);
        x.ask(0);
        due("21: 0 and 1 known", x.known(0), 3);
        int[] left = {0, 2, 2, 0};
        for (int goal = 0; goal < 16; goal++) {
            due("23: of two, goal " + goal, x.worst(goal, 0, 0), left[goal & 3]);
            due("24: of two, goal " + goal, x.mean(goal, 0, 0), left[goal & 3] * 8);
            due("23: the first, goal " + goal, x.worst(goal, 0, 1), left[goal & 3] == 0 ? 100 : 1);
        }
    }

    /** 'of SORT 1 alone (1) or any (0): years (what 0), the first QUESTION (1)'. */
    private static void sortsAndWhat() {
        HutAnswers x = Scenes.four();
        for (int n : new int[] {LOW, -1, 2, HIGH}) {
            due("23: sort " + n, x.worst(-1, n, 0), -1);
            due("23: what " + n, x.worst(-1, 0, n), -1);
            due("24: sort " + n, x.mean(-1, n, 0), -1);
            due("24: what " + n, x.mean(-1, 0, n), -1);
            due("23: sort " + n + " where none is needed", x.worst(15, n, 0), -1);
            due("23: what " + n + " where none is needed", x.worst(15, 0, n), -1);
        }
        due("23: any", x.worst(-1, 0, 0) * 10 + x.worst(-1, 0, 1), 50);
        due("23: without alone", x.worst(-1, 1, 0) * 10 + x.worst(-1, 1, 1), 62);
        due("24: any", x.mean(-1, 0, 0) * 10 + x.mean(-1, 0, 1), 1000);
        due("24: without alone", x.mean(-1, 1, 0) * 10 + x.mean(-1, 1, 1), 1202);
        HutAnswers y = Scenes.plain(2, 0);
        y.question(1, 0, Due.answers(0, 1));
        due("23: within alone, any", y.worst(-1, 0, 0), 1);
        due("23: within alone, without", y.worst(-1, 1, 0), -1);
        due("24: within alone, without", y.mean(-1, 1, 1), -1);
    }

    /** 'not BARRED, .. by which not all that are left answer alike'; 'Of QUESTIONS as good the lowest.' */
    private static void notAllAlike() {
        HutAnswers x = Scenes.plain(3, 1);
        x.question(4, 0, Due.answers(2, 2, 1));
        x.question(4, 0, Due.answers(1, 0, 0));
        x.question(4, 0, Due.answers(0, 3, 3));
        due("23: the lowest that tells anything", x.worst(-1, 0, 0) * 10 + x.worst(-1, 0, 1), 81);
        due("23: whether it is 0: 2 before 3", x.worst(1, 0, 0) * 10 + x.worst(1, 0, 1), 42);
        due("24: the same", x.mean(1, 0, 0) * 10 + x.mean(1, 0, 1), 122);
        Due.law(x, "bars if question=2");
        x.force(0);
        due("23: 3 in its place", x.worst(1, 0, 0) * 10 + x.worst(1, 0, 1), 43);
        Due.law(x, "bars if question>1");
        x.force(1);
        due("23: then it can't be", x.worst(1, 0, 0), -1);
        due("24: nor that", x.mean(1, 0, 0), -1);
        due("23: but this", x.worst(4, 0, 1), 1);
        Due.law(x, "bars");
        x.force(2);
        due("23: where none is needed bars are nothing", x.worst(7, 0, 1), 100);
    }

    /** 'the fewest years by the dearest answers'; 'the least sum of WEIGHTS of all KNOWN times the years'. */
    private static void dearestAnswers() {
        HutAnswers x = new HutAnswers();
        x.thing(1);
        x.thing(50);
        x.thing(99);
        x.question(9, 0, Due.answers(0, 1, 2));
        x.question(1, 0, Due.answers(0, 0, 1));
        x.question(7, 0, Due.answers(0, 1, 1));
        due("23: 1 and 7 are fewer than 9", x.worst(-1, 0, 0) * 10 + x.worst(-1, 0, 1), 81);
        due("24: 1 for all, 7 for two", x.mean(-1, 0, 0), 150 + 7 * 51);
        x.question(3, 0, Due.answers(0, 1, 0));
        due("23: 1 and 3", x.worst(-1, 0, 0), 4);
        due("24: 1 for all, 3 for two", x.mean(-1, 0, 0), 150 + 3 * 51);
        HutAnswers y = new HutAnswers();
        y.thing(99);
        y.thing(1);
        y.thing(1);
        y.question(10, 0, Due.answers(0, 1, 1));
        y.question(20, 0, Due.answers(0, 1, 2));
        y.question(15, 0, Due.answers(0, 0, 1));
        due("23: all at once by 20", y.worst(-1, 0, 0) * 10 + y.worst(-1, 0, 1), 201);
        due("24: the heavy one by 10", y.mean(-1, 0, 0) * 10 + y.mean(-1, 0, 1), (101 * 10 + 2 * 15) * 10);
    }

    /** 'On paper, AGE, ASKED, TEA, DAY in laws as now, left: how many are left there'. */
    private static void asNowButLeft() {
        HutAnswers x = Scenes.plain(4, 0);
        x.question(1, 0, Due.answers(0, 0, 1, 1));
        x.question(1, 0, Due.answers(0, 1, 0, 1));
        x.hide(0);
        x.terms(0, 11);
        x.terms(1, 5);
        x.terms(2, 7);
        x.pour(3);
        String[] words = {"age", "asked+2", "tea", "day", "mood", "left*10", "question+1", "years", "sort"};
        int[] each = {7, 2, 3, 11, 5, 0, 0, 1, 0};
        for (int i = 0; i < words.length; i++) {
            x.image(0);
            Due.law(x, "ages " + words[i]);
            x.force(0);
            int want = i == 5 ? 40 + 20 : i == 6 ? 1 + 2 : 2 * each[i];
            due("23: two steps by " + words[i], x.worst(-1, 0, 0), want);
            due("24: two steps by " + words[i], x.mean(-1, 0, 0), want * 4);
            due("30: compared", x.compare(0), want);
            due("25: at once by " + words[i], x.heap(0), i == 5 ? 40 + 40 : want);
            x.back(0);
        }
        Due.law(x, "bars if left=2 and question=1;bars if left=4 and question=0");
        x.force(0);
        due("23: 1 first, 0 then", x.worst(-1, 0, 1), 1);
        x.terms(2, 9999);
        due("23: her age is no end on paper", x.worst(-1, 0, 0), 2);
        due("24: nor here", x.mean(-1, 0, 0), 8);
    }

    /** Promise 24 at its most: eight things of 99, each but two told alone, by 99 years each. */
    private static void mean() {
        HutAnswers x = new HutAnswers();
        for (int i = 0; i < 8; i++) {
            x.thing(99);
            x.question(99, 1, 1 << 2 * i);
        }
        due("24: 1 .. 6 steps for one each, 7 for two", x.mean(-1, 1, 0), 99 * 99 * (1 + 2 + 3 + 4 + 5 + 6 + 7 + 7));
        due("24: the lowest", x.mean(-1, 1, 1), 0);
        due("23: seven steps", x.worst(-1, 1, 0), 7 * 99);
        due("25: seven questions", x.heap(0) * 1000 + x.heap(1), 7 * 99 * 1000 + 127);
        due("24: whether it is 7", x.mean(128, 0, 0) * 10 + x.mean(128, 0, 1), 99 * 99 * 8 * 10 + 7);
    }

    /** Promise 25: 'years (what 0), QUESTIONS, as bits (1). NONE (none).' */
    private static void heap() {
        HutAnswers x = Scenes.four();
        for (int what : new int[] {LOW, -1, 2, HIGH}) {
            due("25: what " + what, x.heap(what), -1);
        }
        due("25: years and bits", x.heap(0) * 10 + x.heap(1), 53);
        HutAnswers y = Scenes.plain(1, 3);
        due("25: one thing, no question", y.heap(0) * 10 + y.heap(1), 0);
        y.thing(1);
        due("25: two that are alike", y.heap(0), -1);
        due("25: nor bits", y.heap(1), -1);
        for (int q = 3; q < 7; q++) {
            y.question(5, 0, Due.answers(0, 1));
        }
        y.question(4, 0, Due.answers(3, 0));
        due("25: the last of eight", y.heap(0) * 1000 + y.heap(1), 4128);
        HutAnswers z = Scenes.plain(2, 0);
        z.question(3, 0, Due.answers(0, 1));
        z.question(3, 0, Due.answers(1, 0));
        due("25: as good: the lowest as bits", z.heap(1), 1);
        z.thing(1);
        z.question(0, 0, Due.answers(0, 0, 1));
        due("25: with one that costs nothing", z.heap(0) * 10 + z.heap(1), 35);
        HutAnswers w = Scenes.plain(4, 0);
        w.question(2, 0, Due.answers(0, 0, 1, 1));
        w.question(2, 0, Due.answers(0, 1, 0, 1));
        w.question(4, 0, Due.answers(0, 1, 2, 3));
        due("25: 3 is lower than 4, not the fewest", w.heap(0) * 10 + w.heap(1), 43);
    }

    /** 'QUESTIONS not BARRED whose answers together tell all KNOWN apart (left: KNOWN)'. */
    private static void heapByLaw() {
        HutAnswers x = Scenes.four();
        Due.law(x, "bars if question=0;turns");
        x.force(0);
        due("25: one barred", x.heap(0) * 10 + x.heap(1), 64);
        Due.law(x, "bars if not question=1");
        x.force(1);
        due("25: one left", x.heap(0), -1);
        x.force(-1);
        x.hide(1);
        x.ask(0);
        due("25: 0 and 1 known", x.heap(0) * 10 + x.heap(1), 22);
        x.force(1);
        due("25: now one is enough", x.heap(0) * 10 + x.heap(1), 22);
        Due.law(x, "bars if left=2");
        x.force(2);
        due("25: barred by how many are known", x.heap(0), -1);
        x.hide(1);
        due("25: not with four", x.heap(0), 5);
        Due.law(x, "bars");
        x.force(3);
        due("25: all barred", x.heap(1), -1);
        x.force(-1);
        x.ask(2);
        x.force(3);
        due("25: none needed, barred or not", x.heap(0) * 10 + x.heap(1), 0);
        HutAnswers y = Scenes.four();
        Due.law(y, "ages 99");
        y.force(0);
        y.terms(2, 9999);
        due("25: her age is no end", y.heap(0) * 10 + y.heap(1), 994);
    }

    /** Promise 26: 'APART: the QUESTION. NONE (none; one THING).' 'the lowest (BARS aside)'. */
    private static void apart() {
        HutAnswers x = Scenes.four();
        for (int t : new int[] {LOW, -1, 4, HIGH}) {
            due("26: no thing " + t, x.apart(t, 0), -1);
            due("26: nor " + t, x.apart(0, t), -1);
            due("26: nor both " + t, x.apart(t, t), -1);
        }
        int[][] want = {{-1, 1, 0, 1}, {1, -1, 1, 0}, {0, 1, -1, 1}, {1, 0, 1, -1}};
        for (int a = 0; a < 4; a++) {
            for (int b = 0; b < 4; b++) {
                due("26: " + a + " and " + b, x.apart(a, b), want[a][b]);
            }
        }
        x.hide(3);
        x.ask(2);
        due("26: of things no longer known, too", x.apart(0, 1), 1);
        Due.law(x, "bars;ages 1 if left=1 and question=2;ages 2;turns");
        x.force(0);
        due("26: bars aside, the lowest of as good", x.apart(0, 1), 1);
        due("26: of 2 and 2", x.apart(0, 3), 0);
        Due.law(x, "ages 2;ages 1 if left=1 and question=2");
        x.force(1);
        due("26: by the fewest years she ages", x.apart(0, 3), 2);
        HutAnswers y = Scenes.plain(2, 8);
        due("26: none tells them apart", y.apart(0, 1), -1);
    }

    /** Promise 27: 'years (i NONE), the i-th QUESTION. NONE (more than 7; it can't be).' */
    private static void orderPlaces() {
        HutAnswers x = Scenes.four();
        for (int questions : new int[] {LOW, -1, 8, 9, 128, 255, 256, HIGH}) {
            due("27: bits " + questions, x.order(questions, -1), -1);
        }
        for (int i : new int[] {LOW, -2, 3, HIGH}) {
            due("27: place " + i, x.order(7, i), -1);
        }
        for (int i = 0; i < 3; i++) {
            due("27: place " + i, x.order(7, i), i);
        }
        due("27: the last of two", x.order(6, 1), 2);
        due("27: no third of two", x.order(6, 2), -1);
        due("27: none told", x.order(0, -1), 0);
        due("27: no place in none", x.order(0, 0), -1);
        due("27: one", x.order(4, -1) * 10 + x.order(4, 0), 62);
        Due.law(x, "bars if question=1");
        x.force(0);
        due("27: barred", x.order(7, -1), -1);
        due("27: nor a place", x.order(7, 0), -1);
        due("27: without that one", x.order(5, -1), 9);
        due("27: none told, none barred", x.order(0, -1), 0);
    }

    private static void orderOfSeven() {
        HutAnswers x = Scenes.plain(0, 0);
        for (int q = 0; q < 8; q++) {
            x.question(1 << Math.min(q, 6), 0, 0);
        }
        due("27: seven", x.order(127, -1), 127);
        for (int q = 0; q < 7; q++) {
            due("27: the first as a row", x.order(127, q), q);
            due("27: the last seven", x.order(254, q), q + 1);
        }
        due("27: no eighth place", x.order(127, 7), -1);
        due("27: eight", x.order(255, -1), -1);
        due("27: nor a place of eight", x.order(255, 0), -1);
        for (int age : new int[] {9871, 9872, 9873}) {
            x.terms(2, age);
            due("27: seven from " + age, x.order(127, -1), age <= 9872 ? 127 : -1);
        }
        x.terms(2, 9999);
        due("27: none told at 9,999", x.order(0, -1), 0);
        due("27: a year at 9,999", x.order(1, -1), -1);
    }

    /** 'AGE and ASKED as they become, none BARRED as its turn comes, AGE 9,999 at most: .. the first as a row'. */
    private static void orderByAge() {
        HutAnswers x = Scenes.four();
        Due.law(x, "ages age if question=0");
        x.force(0);
        x.terms(2, 4);
        due("27: 0 first", x.order(7, -1) * 1000 + x.order(7, 0) * 100 + x.order(7, 1) * 10 + x.order(7, 2), 12012);
        Due.law(x, "ages 20-age if question=0");
        x.force(1);
        due("27: 0 last, 1 and 2 as they stand", x.order(7, -1) * 1000 + x.order(7, 0) * 100 + x.order(7, 1) * 10
                + x.order(7, 2), 8000 + 8000 + 120);
        Due.law(x, "bars if age=4 and question=0;bars if age=6 and question=0");
        x.force(2);
        due("27: not barred behind 2", x.order(7, 0) * 100 + x.order(7, 1) * 10 + x.order(7, 2), 120);
        due("27: 0 alone is", x.order(1, -1), -1);
        due("27: 0 behind 1 is, too", x.order(3, -1), -1);
        Due.law(x, "ages asked*20+1;bars if asked>1");
        x.force(3);
        x.hide(0);
        due("27: each is asked but once", x.order(7, -1), 3);
        x.ask(1);
        due("27: from how often it was asked", x.order(7, -1), 23);
        x.ask(1);
        due("27: barred by it", x.order(7, -1), -1);
        due("27: not the others", x.order(5, -1), 2);
        HutAnswers y = Scenes.plain(0, 2);
        Due.law(y, "ages 10 if question=0;ages 5 if question=1;ages 1 if question=1 and age=999*10+9");
        y.force(0);
        y.terms(2, 9984);
        due("27: to 9,999 either way", y.order(3, -1) * 10 + y.order(3, 0), 150);
        y.terms(2, 9985);
        due("27: beyond either way", y.order(3, -1), -1);
        y.terms(2, 9989);
        due("27: 9,999 then one more year", y.order(3, -1), -1);
    }

    /** Every row of seven, by laws under which it matters much in what order she is asked. */
    private static void orderAmongAllRows() {
        for (int n = 0; n < 120; n++) {
            int[] law = {1 + n * 7 % 19, 1 + n * 13 % 47, 11 + n * 31 % 90};
            HutAnswers x = Scenes.plain(1, 8);
            String ages = "ages [age*" + law[0] + "+question*" + law[1] + "]%" + law[2];
            due("27: " + ages, Due.law(x, ages), 0);
            x.force(0);
            for (int questions : new int[] {127, 254, 0b10111101, 0b01010101}) {
                for (int age : new int[] {0, 33, 9999 - 3 * law[2]}) {
                    x.terms(2, age);
                    int[] best = {-1, 0};
                    tryRows(law, questions, age, age, 0, best);
                    due("27: years by " + ages + " of " + questions + " from " + age, x.order(questions, -1), best[0]);
                    int row = 0;
                    for (int i = 0; i < Integer.bitCount(questions) && best[0] >= 0; i++) {
                        row = row * 10 + x.order(questions, i) + 1;
                    }
                    due("27: row by " + ages + " of " + questions + " from " + age, row, best[1]);
                }
            }
        }
    }

    /** Rows are told by digits, question 0 as 1; the first of the best stays. */
    private static void tryRows(int[] law, int left, int from, int age, int row, int[] best) {
        if (left == 0 && (best[0] < 0 || age - from < best[0])) {
            best[0] = age - from;
            best[1] = row;
        }
        for (int q = 0; q < 8; q++) {
            int older = age + (age * law[0] + q * law[1]) % law[2];
            if ((left >> q & 1) != 0 && older <= 9999) {
                tryRows(law, left & ~(1 << q), from, older, row * 10 + q + 1, best);
            }
        }
    }

    /** Promise 28: 'from an AGE 0 .. 9,999, k 0 .. 3: how many rows (i NONE), of the i-th the QUESTION at a place.' */
    private static void guessNumbers() {
        HutAnswers x = Scenes.plain(0, 2);
        for (int age : new int[] {LOW, -1, 10000, HIGH}) {
            due("28: age " + age, x.guess(age, 0, -1, 0), -1);
        }
        due("28: age 0", x.guess(0, 0, -1, 0), 1);
        due("28: age 1", x.guess(1, 0, -1, 0), 0);
        due("28: age 9,999", x.guess(9999, 0, -1, 0), 0);
        x.terms(2, 9999);
        due("28: age 9,999 now", x.guess(9999, 0, -1, 0), 1);
        due("28: age 9,998", x.guess(9998, 0, -1, 0), 0);
        for (int k : new int[] {LOW, -1, 4, HIGH}) {
            due("28: k " + k, x.guess(9999, k, -1, 0), -1);
        }
        for (int k = 0; k < 4; k++) {
            due("28: k " + k, x.guess(9999, k, -1, 0), 1 << k);
            due("28: the last row of k " + k, x.guess(9999, k, (1 << k) - 1, k - 1), k == 0 ? -1 : 1);
            due("28: none behind it", x.guess(9999, k, 1 << k, 0), -1);
            due("28: no place k", x.guess(9999, k, 0, k), -1);
            due("28: no place -1", x.guess(9999, k, 0, -1), -1);
            due("28: i NONE, whatever the place", x.guess(9999, k, -1, 77), 1 << k);
        }
        for (int i : new int[] {LOW, -2, HIGH}) {
            due("28: i " + i, x.guess(9999, 1, i, 0), -1);
        }
        due("28: place at the most", x.guess(9999, 3, 0, HIGH), -1);
    }

    /** 'rows of k QUESTIONS .. end at AGE; as rows of numbers go'. */
    private static void guessRows() {
        HutAnswers x = new HutAnswers();
        x.question(2, 0, 0);
        x.question(1, 0, 0);
        x.question(3, 0, 0);
        x.terms(2, 6);
        int[][] rows = {{0, 0, 0}, {0, 1, 2}, {0, 2, 1}, {1, 0, 2}, {1, 2, 0}, {2, 0, 1}, {2, 1, 0}};
        due("28: six years by three", x.guess(0, 3, -1, 0), rows.length);
        for (int i = 0; i < rows.length; i++) {
            for (int place = 0; place < 3; place++) {
                due("28: row " + i + ", place " + place, x.guess(0, 3, i, place), rows[i][place]);
            }
        }
        due("28: no eighth row", x.guess(0, 3, 7, 0), -1);
        due("28: two by two", x.guess(0, 2, -1, 0), 1);
        due("28: 2 and 2", x.guess(0, 2, 0, 0) * 10 + x.guess(0, 2, 0, 1), 22);
        due("28: one is too few", x.guess(0, 1, -1, 0), 0);
        due("28: no years", x.guess(6, 1, -1, 0), 0);
        due("28: from an age beyond", x.guess(7, 0, -1, 0), 0);
        due("28: from an age beyond by one", x.guess(7, 1, -1, 0), 0);
        due("28: three at least", x.guess(3, 3, -1, 0) * 10 + x.guess(4, 3, -1, 0), 10);
        due("28: nine at most", x.guess(0, 3, -1, 0), 7);
        x.terms(2, 9);
        due("28: thrice the dearest", x.guess(0, 3, -1, 0) * 10 + x.guess(0, 3, 0, 2), 12);
        x.terms(2, 10);
        due("28: ten is beyond", x.guess(0, 3, -1, 0), 0);
    }

    /** 'ASKED from now on as they become; BARS aside'. */
    private static void guessByLaw() {
        HutAnswers x = Scenes.plain(1, 1);
        Due.law(x, "ages asked-990;bars if asked>998");
        x.hide(0);
        EdgesOfTermsTest.askOften(x, 997);
        x.force(0);
        x.terms(2, 100);
        due("28: 7, 8, 9", x.guess(100 - 24, 3, -1, 0), 1);
        x.force(-1);
        x.ask(0);
        x.force(0);
        due("28: 8, 9 and, at most 999, 9", x.guess(100 - 26, 3, -1, 0), 1);
        due("28: not 10", x.guess(100 - 27, 3, -1, 0), 0);
        due("28: two", x.guess(100 - 17, 2, -1, 0), 1);
        HutAnswers y = Scenes.plain(1, 2);
        y.hide(0);
        y.ask(1);
        Due.law(y, "ages asked*10+question+1");
        y.force(0);
        y.terms(2, 500);
        due("28: 0 twice: 1 and 11", y.guess(488, 2, 0, 0) * 10 + y.guess(488, 2, -1, 0), 1);
        due("28: 1 twice: 12 and 22", y.guess(466, 2, 0, 1) * 10 + y.guess(466, 2, -1, 0), 11);
        due("28: 0 and 1, 1 and 0: 1 and 12", y.guess(487, 2, -1, 0), 2);
        due("28: nothing was asked", y.of(0, 2) * 10 + y.of(1, 2), 1);
        Due.law(y, "ages age-480;bars;turns");
        y.force(1);
        due("28: by age as it becomes: 2, 4, 8", y.guess(486, 2, -1, 0), 0);
        due("28: 5, 10", y.guess(485, 2, -1, 0), 4);
        due("28: from below 480 none", y.guess(480, 3, -1, 0), 0);
        Due.law(y, "ages left");
        y.force(2);
        due("28: left as now", y.guess(497, 3, -1, 0), 8);
    }

    /** Promise 29: 'sixty times the years she AGES by all who WANT it, cut, together.' */
    private static void share() {
        HutAnswers x = Scenes.plain(0, 0);
        for (int q = 0; q < 8; q++) {
            x.question(99, 0, 0);
        }
        for (int v = 0; v < 6; v++) {
            due("29: none yet", x.share(v), -1);
            x.visitor(255);
            due("29: by all who want it", x.share(0), 8 * (60 * 99 / (v + 1)));
            due("29: alike", x.share(v), 8 * (60 * 99 / (v + 1)));
        }
        for (int v : new int[] {LOW, -1, 6, HIGH}) {
            due("29: no visitor " + v, x.share(v), -1);
        }
        HutAnswers y = Scenes.four();
        y.visitor(0b1001);
        y.visitor(0b1000);
        y.visitor(0);
        due("29: what is not there costs nothing", y.share(0), 180);
        due("29: nor here", y.share(1), 0);
        due("29: who wants none", y.share(2), 0);
        y.question(1, 0, 0);
        due("29: now it is there", y.share(0) * 1000 + y.share(1), 210030);
        Due.law(y, "bars;ages question*7+left");
        y.force(0);
        y.visitor(0b10000);
        due("29: whatever the law says of it, what is not there costs nothing", y.share(3), 0);
        due("29: barred or not, as she ages", y.share(0) * 10000 + y.share(1), (240 + 750) * 10000 + 750);
    }

    /** Promise 30: 'COMPARED. NONE (no such LAW; it can't be).' */
    private static void compare() {
        HutAnswers x = Scenes.four();
        for (int law : new int[] {LOW, -2, 0, 1, HIGH}) {
            due("30: no law " + law, x.compare(law), -1);
        }
        due("30: by none", x.compare(-1), 5);
        for (int i = 0; i < 6; i++) {
            due("30: not there yet", x.compare(i), -1);
            Due.law(x, i == 3 ? "bars" : "ages " + (i + 1));
        }
        x.force(3);
        int[] want = {1, 2, 3, -1, 5, 6};
        for (int i = 0; i < 6; i++) {
            due("30: by law " + i, x.compare(i), want[i]);
        }
        due("30: by none still", x.compare(-1), 5);
        due("30: no seventh", x.compare(6), -1);
        due("30: that in force stays", x.count(13), 3);
        due("30: none is refused", x.status() + x.count(8) + x.count(9), 0);
        x.force(-1);
        x.hide(0);
        x.ask(2);
        for (int i = -1; i < 6; i++) {
            due("30: one is known", x.compare(i), 0);
        }
    }

    /** Promise 31: 'how often just one was KNOWN at the end. -1; -3 there are no THINGS, no QUESTIONS.' */
    private static void huts() {
        HutAnswers x = new HutAnswers();
        due("31: neither", x.huts(0, 1), -3);
        due("31: -1 first", x.huts(0, 0), -1);
        x.thing(1);
        due("31: no questions", x.huts(0, 1), -3);
        x.question(0, 0, 0);
        due("31: both", x.huts(0, 1), 1);
        HutAnswers y = Scenes.plain(0, 1);
        due("31: no things", y.huts(0, 1), -3);
        due("32: none is kept", y.drawn(0), -1);
        y.thing(1);
        y.thing(1);
        due("31: two are never known alone", y.huts(0, 40), 0);
        due("31: not refused", y.status(), 0);
    }

    /** Promise 32: 'AGE (what 0), DAY (1), TEA (2), KNOWN (3), how often QUESTION q was ASKED .. (4 + q). NONE.' */
    private static void drawn() {
        HutAnswers x = Scenes.plain(3, 0);
        for (int q = 0; q < 8; q++) {
            x.question(1, 0, 0);
        }
        for (int what = -1; what < 13; what++) {
            due("32: ahead of any, what " + what, x.drawn(what), -1);
        }
        x.terms(0, 5);
        x.terms(2, 20);
        x.pour(9);
        x.huts(0, 3);
        int[] want = {44, 8, 6, 7};
        for (int what = 0; what < 4; what++) {
            due("32: what " + what, x.drawn(what), want[what]);
        }
        int asked = 0;
        for (int q = 0; q < 8; q++) {
            due("32: question " + q + " can have been asked", x.drawn(4 + q) >= 0 ? 1 : 0, 1);
            asked += x.drawn(4 + q);
        }
        due("32: eight in the last visit", asked, 8);
        for (int what : new int[] {LOW, -1, 12, 13, HIGH}) {
            due("32: what " + what, x.drawn(what), -1);
        }
        due("32: on paper", x.count(14) * 10000 + x.count(16) * 10 + x.count(4), 50000 + 200 + 9);
    }

    /** 'HUTS, kept as the latest'. */
    private static void drawnLater() {
        HutAnswers x = Scenes.oneQuestion(3, "ages 4");
        x.huts(0, 2);
        due("32: two visits", x.drawn(0) * 10 + x.drawn(1), 82);
        x.huts(0, 3);
        due("32: three", x.drawn(0) * 10 + x.drawn(1), 123);
        due("31: refused", x.huts(0, 41), -1);
        due("32: the latest that was not", x.drawn(0) * 10 + x.drawn(1), 123);
        x.force(-1);
        x.terms(2, 500);
        x.hide(0);
        x.pour(9);
        x.pass();
        x.undo();
        x.image(0);
        x.back(0);
        due("32: what comes later changes nothing of it", x.drawn(0) * 100 + x.drawn(1) * 10 + x.drawn(2), 1230);
        x.huts(0, 1);
        due("32: from where it stands now", x.drawn(0) * 100 + x.drawn(1) * 10 + x.drawn(2), 50300 + 10 + 8);
    }

    /** Promise 35: '0 THINGS, .. 14 .. 16 TERMS 0 .. 2. NONE for others.' */
    private static void count() {
        HutAnswers x = Scenes.middle();
        for (int what : new int[] {LOW, -1, 17, 18, HIGH}) {
            due("35: what " + what, x.count(what), -1);
        }
        HutAnswers y = Scenes.full();
        int[] want = {8, 8, 6, 7, 99, 6, 16, 400, 0, 0, 0, 0, 0, 5, 999, 9, 9999};
        for (int what = 0; what < want.length; what++) {
            due("35: what " + what + " at the most", y.count(what), want[what]);
        }
    }

    /** Promise 35: '8 .. 12 how many calls were REFUSED by -1, -2, -3, -5, -6 (IMAGES do not keep that)'. */
    private static void refusalsAreCounted() {
        HutAnswers x = Scenes.plain(8, 0);
        x.image(0);
        for (int i = 1; i <= 5; i++) {
            x.thing(0);
            x.force(0);
            x.undo();
            x.thing(1);
            x.row();
            for (int what = 8; what < 13; what++) {
                due("35: refused, what " + what, x.count(what), i);
            }
        }
        x.back(0);
        for (int what = 8; what < 13; what++) {
            due("35: behind back(), what " + what, x.count(what), 5);
        }
        Due.orders(x, "pour 0");
        Due.orders(x, "hide 9");
        Due.orders(x, "pass;ask 9");
        due("35: orders that can't be are refused by -3 alone", x.count(8) * 100 + x.count(9) * 10 + x.count(10), 558);
        x.end(-1);
        x.of(9, 9);
        x.worst(-2, 0, 0);
        x.compare(9);
        x.drawn(0);
        x.share(9);
        due("35: NONE is no refusal", x.count(8) + x.count(9) + x.count(11) + x.count(12), 20);
    }

    /** Promise 36: which calls it is of, and that it is 0 if the latest was not REFUSED. */
    private static void statusOfEach() {
        HutAnswers x = new HutAnswers();
        due("36: ahead of any", x.status(), 0);
        String[] calls = {"thing", "question", "visitor", "terms", "row", "law", "orders", "force", "ask", "pour",
            "pass", "hide", "undo", "huts", "image", "back"};
        for (String call : calls) {
            HutAnswers y = Scenes.plain(1, 1);
            y.hide(0);
            y.image(0);
            y.thing(0);
            due("36: refused ahead of " + call, y.status(), -1);
            fine(y, call);
            due("36: " + call, y.status(), 0);
        }
        HutAnswers z = Scenes.middle();
        z.thing(0);
        Sight all = new Sight(z);
        due("36: looking changes nothing", z.status(), all.get("status()"));
        z.feed(0, 0, 0, 0, 0);
        z.end(3);
        z.end(-3);
        due("36: nor the tape's calls", z.status(), -1);
        z.back(1);
        due("36: the latest refusal", z.status(), -2);
        z.ask(0);
        due("36: -3", z.status(), -3);
        z.row();
        due("36: 0", z.status(), 0);
        z.row();
        due("36: -6", z.status(), -6);
    }

    private static void fine(HutAnswers y, String call) {
        switch (call) {
            case "thing": y.thing(1); break;
            case "question": y.question(0, 0, 0); break;
            case "visitor": y.visitor(0); break;
            case "terms": y.terms(0, 0); break;
            case "row": Due.put(y, "\0"); y.row(); break;
            case "law": Due.law(y, "bars"); break;
            case "orders": Due.orders(y, "pass"); break;
            case "force": y.force(-1); break;
            case "ask": y.ask(0); break;
            case "pour": y.pour(1); break;
            case "pass": y.pass(); break;
            case "hide": y.hide(-1); break;
            case "undo": y.undo(); break;
            case "huts": y.huts(0, 1); break;
            case "image": y.image(1); break;
            default: y.back(0); break;
        }
    }
}
