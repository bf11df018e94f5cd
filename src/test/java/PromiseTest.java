/** Each promise of the document by its number: ordinary inputs, the edges it names, wrong inputs. */
public final class PromiseTest {
    private static final Due DUE = new Due();

    public static void main(String[] args) {
        aNewObject();
        thing();
        question();
        of();
        visitor();
        terms();
        feedAndEnd();
        rowAndHens();
        force();
        ask();
        pourAndPass();
        hide();
        undo();
        known();
        odds();
        worst();
        worstByLaw();
        full();
        mean();
        heap();
        apart();
        order();
        orderByLaw();
        guess();
        guessByLaw();
        share();
        compare();
        huts();
        hutsOfOneKind();
        drawn();
        imageAndBack();
        count();
        status();
        DUE.close("PromiseTest");
    }

    private static void due(String what, long got, long want) {
        DUE.same(what, got, want);
    }

    /** Four things of the weights 5, 3, 2, 10; questions of 3, 2 and 6 years; nothing hidden. */
    private static HutAnswers four() {
        HutAnswers x = new HutAnswers();
        x.thing(5);
        x.thing(3);
        x.thing(2);
        x.thing(10);
        x.question(3, 0, Due.answers(0, 0, 1, 1));
        x.question(2, 1, Due.answers(0, 1, 0, 1));
        x.question(6, 1, Due.answers(0, 1, 2, 3));
        return x;
    }

    private static void aNewObject() {
        HutAnswers x = new HutAnswers();
        int[] empty = {0, 0, 0, -1, 0, 0, 0, 0, 0, 0, 0, 0, 0, -1, 0, 0, 0};
        for (int what = 0; what < empty.length; what++) {
            due("1: count(" + what + ")", x.count(what), empty[what]);
        }
        due("1: known(0)", x.known(0), 0);
        due("1: fault()", x.fault(), -1);
        due("1: stopped()", x.stopped(), -1);
        due("1: hens()", x.hens(), 0);
        due("1: status()", x.status(), 0);
        due("1: drawn(0)", x.drawn(0), -1);
        due("1: NONE", HutAnswers.NONE, -1);
    }

    private static void thing() {
        HutAnswers x = new HutAnswers();
        due("2: too light", x.thing(0), -1);
        due("2: too heavy", x.thing(100), -1);
        due("2: lightest", x.thing(1), 0);
        due("2: heaviest", x.thing(99), 1);
        x.question(0, 0, Due.answers(0, 1));
        x.hide(0);
        x.ask(0);
        due("2: one known", x.known(0), 1);
        due("2: a third", x.thing(5), 2);
        due("2: all known as a thing comes", x.known(0), 7);
        due("2: hidden as before", x.count(3), 0);
        due("2: asked as before", x.of(0, 2), 1);
        for (int i = 3; i < 8; i++) {
            due("2: thing " + i, x.thing(7), i);
        }
        due("2: no room", x.thing(7), -5);
        due("2: -1 goes ahead of -5", x.thing(0), -1);
        due("2: all eight known", x.known(0), 255);
    }

    private static void question() {
        HutAnswers x = new HutAnswers();
        due("3: years below", x.question(-1, 0, 0), -1);
        due("3: years above", x.question(100, 0, 0), -1);
        due("3: sort below", x.question(0, -1, 0), -1);
        due("3: sort above", x.question(0, 2, 0), -1);
        due("3: answers below", x.question(0, 0, -1), -1);
        due("3: answers above", x.question(0, 0, 65536), -1);
        due("3: the least", x.question(0, 0, 0), 0);
        due("3: the most", x.question(99, 1, 65535), 1);
        for (int i = 2; i < 8; i++) {
            due("3: question " + i, x.question(i, 0, 0), i);
        }
        due("3: no room", x.question(1, 0, 0), -5);
        due("3: -1 goes ahead of -5", x.question(1, 2, 0), -1);
    }

    private static void of() {
        HutAnswers x = four();
        Due.law(x, "ages years*2+question if sort=1;turns if question=2;bars if question=0");
        due("4: no such question", x.of(3, 0), -1);
        due("4: question below", x.of(-1, 0), -1);
        due("4: years", x.of(2, 0), 6);
        due("4: sort", x.of(2, 1), 1);
        due("4: ages without a law", x.of(2, 3), 6);
        due("4: turns without a law", x.of(2, 4), 0);
        due("4: bars without a law", x.of(0, 5), 0);
        x.force(0);
        due("4: ages", x.of(2, 3), 14);
        due("4: ages where no clause holds", x.of(0, 3), 3);
        due("4: turns", x.of(2, 4), 1);
        due("4: turns not", x.of(1, 4), 0);
        due("4: bars", x.of(0, 5), 1);
        due("4: bars not", x.of(1, 5), 0);
        due("4: the answer is not turned", x.of(2, 8), 2);
        due("4: the last thing", x.of(2, 9), 3);
        due("4: no such thing", x.of(2, 10), -1);
        due("4: what below", x.of(2, -1), -1);
        due("4: what at the least", x.of(2, Integer.MIN_VALUE), -1);
        x.hide(1);
        x.ask(1);
        x.ask(1);
        due("4: asked", x.of(1, 2), 2);
    }

    private static void visitor() {
        HutAnswers x = new HutAnswers();
        due("5: below", x.visitor(-1), -1);
        due("5: above", x.visitor(256), -1);
        due("5: none wanted", x.visitor(0), 0);
        due("5: all wanted", x.visitor(255), 1);
        for (int i = 2; i < 6; i++) {
            due("5: visitor " + i, x.visitor(i), i);
        }
        due("5: no room", x.visitor(1), -5);
        due("5: -1 goes ahead of -5", x.visitor(256), -1);
    }

    private static void terms() {
        HutAnswers x = new HutAnswers();
        int[] most = {999, 9, 9999};
        for (int what = 0; what < 3; what++) {
            due("6: above " + what, x.terms(what, most[what] + 1), -1);
            due("6: below " + what, x.terms(what, -1), -1);
            due("6: most " + what, x.terms(what, most[what]), 0);
            due("6: what it was " + what, x.terms(what, 3), most[what]);
            due("6: what it is " + what, x.count(14 + what), 3);
        }
        due("6: no such term", x.terms(3, 0), -1);
        due("6: term below", x.terms(-1, 0), -1);
    }

    private static void feedAndEnd() {
        HutAnswers x = new HutAnswers();
        due("7: twenty", x.feed(1, 2, 3, 4, 5), 20);
        due("8: below", x.end(-1), -1);
        due("8: more than it has", x.end(21), -1);
        due("8: all", x.end(20), 20);
        due("8: fewer", x.end(3), 3);
        due("8: no longer so many", x.end(4), -1);
        due("8: count", x.count(7), 3);
        due("7: behind them", x.feed(0, 0, 0, 0, 0), 23);
        for (int n = 43; n <= 383; n += 20) {
            due("7: up to " + n, x.feed(0, 0, 0, 0, 0), n);
        }
        due("7: 403 are too many", x.feed(0, 0, 0, 0, 0), -1);
        due("7: as it was", x.count(7), 383);
        x.end(380);
        due("7: 400", x.feed(0, 0, 0, 0, 0), 400);
        due("7: full", x.feed(0, 0, 0, 0, 0), -1);
        due("8: none", x.end(0), 0);
        x.feed(0x63010102, 0xff000000, 0, 0, 0);
        x.end(4);
        due("7: the highest first", x.row(), 1);
        due("7: years", x.of(0, 0), 99);
        x.thing(1);
        due("7: answers, the second byte the lower", x.of(0, 6), 2);
    }

    private static void rowAndHens() {
        HutAnswers x = new HutAnswers();
        due("9: empty", x.row(), -6);
        Due.put(x, "\u0064\0\0\0" + "\u0063\1\3\2" + "\1\2\0\0" + "\0\0\u00ff\u00ff" + "\1\0");
        due("9: two came", x.row(), 2);
        due("10: three hens", x.hens(), 3);
        due("9: the tape is empty", x.count(7), 0);
        due("9: answers", x.count(1), 2);
        due("9: refused", x.row(), -6);
        due("10: as of the one not refused", x.hens(), 3);
        for (int i = 0; i < 5; i++) {
            x.thing(1);
        }
        due("9: 99 years", x.of(0, 0), 99);
        due("9: without", x.of(0, 1), 1);
        due("9: within", x.of(1, 1), 0);
        due("9: the second byte for thing 0", x.of(0, 6), 2);
        due("9: the first byte for thing 4", x.of(0, 10), 3);
        due("9: 65535 for thing 1", x.of(1, 7), 3);
        Due.put(x, "\1\0\0\0\1\0\0\0\1\0\0\0\1\0\0\0\1\0\0\0\1\0\0\0\1\0\0\0");
        due("9: room for six", x.row(), 6);
        due("10: one had no room", x.hens(), 1);
        x.pour(1);
        Due.put(x, "\1");
        due("9: a byte alone", x.row(), 0);
        due("10: is a hen", x.hens(), 1);
        due("9: what was ahead can't be undone", x.count(6), 0);
        due("9: not refused", x.status(), 0);
    }

    private static void force() {
        HutAnswers x = new HutAnswers();
        due("15: none", x.force(-1), -1);
        due("15: not refused", x.status(), 0);
        due("15: no such", x.force(0), -2);
        Due.law(x, "turns");
        Due.law(x, "bars");
        due("15: 1", x.force(1), -1);
        due("15: 0", x.force(0), 1);
        due("15: below", x.force(-2), -2);
        due("15: as it was", x.count(13), 0);
        due("15: none again", x.force(-1), 0);
    }

    private static void ask() {
        HutAnswers x = four();
        due("16: no such ahead of none hidden", x.ask(3), -2);
        due("16: none hidden", x.ask(0), -3);
        x.hide(3);
        Due.law(x, "ages asked*10+left;turns if asked=1;bars if asked=3");
        x.force(0);
        due("16: answers", x.ask(2), 3);
        due("16: ages by what was left ahead", x.count(16), 4);
        due("16: known", x.known(0), 8);
        due("16: turned, 0 for 3", x.ask(2), 0);
        due("16: ages by asked ahead", x.count(16), 15);
        due("16: turned, known as before", x.known(0), 8);
        due("16: a third time", x.ask(2), 3);
        due("16: barred", x.ask(2), -3);
        due("16: nothing came of it", x.count(16), 36);
        due("16: below", x.ask(-1), -2);
        x.force(-1);
        x.terms(2, 9993);
        due("16: up to 9,999", x.ask(2), 3);
        due("16: 9,999", x.count(16), 9999);
        due("16: beyond", x.ask(1), -3);
        askedStopsAt999();
    }

    private static void askedStopsAt999() {
        HutAnswers x = four();
        x.question(0, 0, 0);
        x.hide(0);
        for (int i = 0; i < 4; i++) {
            due("16: 240 at once", Due.orders(x, "ask 3 times 20" + ";ask 3 times 20".repeat(11)), 240);
        }
        due("16: 960", x.of(3, 2), 960);
        Due.orders(x, "ask 3 times 20;ask 3 times 20");
        due("16: 999 at most", x.of(3, 2), 999);
        due("16: may be asked on", x.ask(3), 0);
    }

    private static void pourAndPass() {
        HutAnswers x = new HutAnswers();
        due("17: none", x.pour(0), -1);
        due("17: ten", x.pour(10), -1);
        due("18: a day without tea", x.pass(), 1);
        due("18: tea 0 at least", x.count(4), 0);
        for (int i = 1; i <= 10; i++) {
            due("17: nine", x.pour(9), 9 * i);
        }
        due("17: 99", x.pour(9), 99);
        due("17: 99 at most", x.pour(1), 99);
        due("18: a day", x.pass(), 2);
        due("18: a cup less", x.count(4), 98);
        x.terms(0, 998);
        due("18: the last", x.pass(), 999);
        due("18: none behind it", x.pass(), -3);
        due("18: tea as it was", x.count(4), 97);
    }

    private static void hide() {
        HutAnswers x = new HutAnswers();
        due("19: none in an empty hut", x.hide(-1), 0);
        x = four();
        due("19: no such", x.hide(4), -2);
        due("19: below", x.hide(-2), -2);
        due("19: a thing", x.hide(0), 4);
        x.ask(2);
        due("19: one known", x.known(0), 1);
        due("19: anew", x.hide(1), 4);
        due("19: all known", x.known(0), 15);
        due("19: asked 0", x.of(2, 2), 0);
        due("19: the age stays", x.count(16), 6);
        due("19: none", x.hide(-1), 4);
        due("19: hidden none", x.count(3), -1);
    }

    private static void undo() {
        HutAnswers x = four();
        due("20: nothing", x.undo(), -3);
        x.hide(1);
        x.ask(0);
        x.pour(9);
        x.pass();
        x.visitor(1);
        Due.law(x, "bars");
        x.force(0);
        x.image(0);
        due("20: refused acts are none", x.ask(0), -3);
        due("20: four", x.count(6), 4);
        due("20: a day", x.undo(), 2);
        due("20: day and tea", 100 * x.count(14) + x.count(4), 9);
        due("20: tea", x.undo(), 1);
        due("20: no tea", x.count(4), 0);
        due("20: an answer", x.undo(), 0);
        due("20: known, age, asked", x.known(0) + x.count(16) + x.of(0, 2), 15);
        due("20: a hiding", x.undo(), 3);
        due("20: none hidden", x.count(3), -1);
        due("20: no more", x.undo(), -3);
        x.force(-1);
        undoKeepsSixteen(x);
        undoForgets(x);
    }

    private static void undoKeepsSixteen(HutAnswers x) {
        x.terms(0, 0);
        for (int i = 0; i < 20; i++) {
            x.pass();
        }
        due("20: 16 are kept", x.count(6), 16);
        due("20: orders that can't be", Due.orders(x, "pass times 20;pour 0"), -3);
        for (int i = 0; i < 16; i++) {
            due("20: day", x.undo(), 2);
            due("20: the day ahead", x.count(14), 19 - i);
        }
        due("20: the 17th is gone", x.undo(), -3);
        x.pour(9);
        x.terms(0, 0);
        x.hide(0);
        x.hide(3);
        x.ask(1);
        x.hide(-1);
        due("20: hiding undone", x.undo(), 3);
        due("20: with what was asked", x.of(1, 2), 1);
        due("20: with what was known", x.known(0), 10);
        x.terms(2, 40);
        x.ask(2);
        x.ask(2);
        x.undo();
        due("20: her age ahead of it", x.count(16), 46);
        due("20: how often it was asked ahead of it", x.of(2, 2), 1);
        x.undo();
        due("20: her age ahead of that", x.count(16), 40);
    }

    private static void undoForgets(HutAnswers x) {
        x.pass();
        x.thing(0);
        x.question(0, 3, 0);
        x.terms(0, -1);
        x.row();
        due("20: refused calls forget nothing", x.undo(), 2);
        x.pass();
        x.terms(1, 0);
        due("20: terms() forgets", x.undo(), -3);
        x.pass();
        x.thing(1);
        due("20: thing() forgets", x.undo(), -3);
        x.pass();
        x.question(1, 0, 0);
        due("20: question() forgets", x.undo(), -3);
        x.pass();
        x.image(1);
        due("20: image() forgets nothing", x.undo(), 2);
        x.pass();
        x.back(1);
        due("20: back() forgets", x.undo(), -3);
    }

    private static void known() {
        HutAnswers x = four();
        due("21: all", x.known(0), 15);
        due("21: weight", x.known(1), 20);
        due("21: more than one", x.known(2), -1);
        x.hide(2);
        x.ask(1);
        due("21: two", x.known(0), 5);
        due("21: their weight", x.known(1), 7);
        x.ask(0);
        due("21: one alone", x.known(2), 2);
        due("21: no such", x.known(3), -1);
        due("21: below", x.known(-1), -1);
    }

    private static void odds() {
        HutAnswers x = four();
        due("22: 0", x.odds(1, 0), 7);
        due("22: 1", x.odds(1, 1), 13);
        due("22: 2", x.odds(1, 2), 0);
        due("22: 3", x.odds(2, 3), 10);
        Due.law(x, "turns if question>0;bars");
        x.force(0);
        due("22: turned, barred all the same", x.odds(1, 1), 7);
        due("22: turned 3", x.odds(2, 0), 10);
        due("22: not turned", x.odds(0, 0), 8);
        due("22: no such question", x.odds(3, 0), -1);
        due("22: answer below", x.odds(0, -1), -1);
        due("22: answer above", x.odds(0, 4), -1);
        x.force(-1);
        x.hide(0);
        x.ask(0);
        due("22: of the known alone", x.odds(1, 1), 3);
    }

    private static void worst() {
        HutAnswers x = four();
        due("23: years", x.worst(-1, 0, 0), 5);
        due("23: of as good ones the lowest", x.worst(-1, 0, 1), 0);
        due("23: without", x.worst(-1, 1, 0), 6);
        due("23: without, the first", x.worst(-1, 1, 1), 2);
        due("23: whether 0 or 1", x.worst(3, 0, 0), 3);
        due("23: whether 0 or 2", x.worst(5, 0, 1), 1);
        due("23: whether one of all", x.worst(15, 0, 0), 0);
        due("23: none needed", x.worst(15, 0, 1), 100);
        due("23: whether one of none", x.worst(0, 0, 1), 100);
        due("23: goal above", x.worst(16, 0, 0), -1);
        due("23: goal below", x.worst(-2, 0, 0), -1);
        due("23: sort above", x.worst(-1, 2, 0), -1);
        due("23: sort below", x.worst(-1, -1, 0), -1);
        due("23: what above", x.worst(-1, 0, 2), -1);
        due("23: what below", x.worst(-1, 0, -1), -1);
        HutAnswers y = new HutAnswers();
        due("23: nothing", y.worst(-1, 0, 1), 100);
        y.thing(1);
        due("23: one thing", y.worst(-1, 0, 0), 0);
        y.thing(1);
        due("23: no question", y.worst(-1, 0, 0), -1);
        due("23: no question, the first", y.worst(-1, 0, 1), -1);
        y.question(4, 0, Due.answers(1, 1));
        due("23: all answer alike", y.worst(-1, 0, 0), -1);
        y.question(4, 0, Due.answers(1, 2));
        due("23: within alone", y.worst(-1, 1, 0), -1);
        due("23: now it can be", y.worst(-1, 0, 1), 1);
    }

    private static void worstByLaw() {
        HutAnswers x = four();
        Due.law(x, "ages left*10+asked if question<2;ages 50 if question=2");
        x.force(0);
        due("23: 40 and 20 by how many are left are more than 50", x.worst(-1, 0, 0), 50);
        due("23: so all at once", x.worst(-1, 0, 1), 2);
        x.hide(0);
        Due.law(x, "bars if left=4 and not question=0;bars if question=2");
        x.force(1);
        due("23: barred at first alone", x.worst(-1, 0, 0), 5);
        due("23: the one that is not barred", x.worst(-1, 0, 1), 0);
        Due.law(x, "bars if question=1 and left=2;bars if question=2");
        x.force(2);
        due("23: one way round", x.worst(-1, 0, 1), 1);
        Due.law(x, "bars if left<3;bars if question=2");
        x.force(3);
        due("23: barred behind", x.worst(-1, 0, 0), -1);
        x.force(-1);
        x.terms(2, 9999);
        due("23: her age does not end it on paper", x.worst(-1, 0, 0), 5);
        x.terms(2, 0);
        x.ask(0);
        due("23: from what is known", x.worst(-1, 0, 0), 2);
    }

    /** Eight things and as many questions; question q tells thing q from all others by a 3. */
    private static HutAnswers eight() {
        HutAnswers x = new HutAnswers();
        for (int i = 0; i < 8; i++) {
            x.thing(1 + i);
            x.question(99 - i, 1, 3 << 2 * i);
        }
        return x;
    }

    private static void full() {
        HutAnswers x = eight();
        int allButOne = 92 + 93 + 94 + 95 + 96 + 97 + 98;
        due("23: all but the dearest", x.worst(-1, 0, 0), allButOne);
        due("25: all but the dearest at once", x.heap(0) * 1000 + x.heap(1), allButOne * 1000 + 254);
        due("27: seven of 93 to 99 years", x.order(127, -1), 99 + 98 + 97 + 96 + 95 + 94 + 93);
        due("27: the last", x.order(254, 6), 7);
        x.terms(2, 9999 - 692);
        due("27: seven of 99 would be too many", x.order(127, -1), 672);
        Due.law(x, "ages 99");
        x.force(0);
        due("27: and are", x.order(127, -1), -1);
        x.terms(2, 9999 - 693);
        due("27: but for a year", x.order(127, -1), 693);
        Due.law(x, "ages left");
        x.force(1);
        due("23: by 8, 7, 6, 5, 4, 3, 2", x.worst(-1, 1, 0), 35);
        due("23: the lowest", x.worst(-1, 1, 1), 0);
        due("24: the heavy one first", x.mean(-1, 0, 1), 7);
        due("24: each one's years", x.mean(-1, 0, 0), 8 * 36 + 7 * 28 + 6 * 21 + 5 * 15 + 4 * 10 + 3 * 6 + 2 * 3);
        due("25: seven times eight", x.heap(0) * 1000 + x.heap(1), 56 * 1000 + 127);
        due("26: the lower of two", x.apart(6, 7), 6);
        due("28: three times eight", x.guess(9306 - 24, 3, -1, 0), 512);
        due("28: the last row", x.guess(9306 - 24, 3, 511, 0), 7);
        due("28: its middle", x.guess(9306 - 24, 3, 510, 1), 7);
    }

    private static void mean() {
        HutAnswers x = four();
        due("24: sum", x.mean(-1, 0, 0), 100);
        due("24: first", x.mean(-1, 0, 1), 0);
        due("24: whether 0 or 2", x.mean(5, 0, 0), 40);
        due("24: first of that", x.mean(5, 0, 1), 1);
        due("24: without", x.mean(-1, 1, 0), 120);
        due("24: none needed", x.mean(0, 0, 1), 100);
        due("24: goal above", x.mean(16, 0, 0), -1);
        due("24: goal below", x.mean(-2, 0, 0), -1);
        due("24: sort above", x.mean(-1, 2, 0), -1);
        due("24: what above", x.mean(-1, 0, 2), -1);
        HutAnswers y = new HutAnswers();
        y.thing(1);
        y.thing(1);
        y.thing(90);
        y.question(4, 0, Due.answers(0, 0, 1));
        y.question(4, 0, Due.answers(0, 1, 1));
        due("24: the heavy one first", y.mean(-1, 0, 0), 4 * 92 + 4 * 2);
        due("24: the first", y.mean(-1, 0, 1), 0);
        due("24: at worst it is the same", y.worst(-1, 0, 0), 8);
        y.hide(0);
        y.ask(1);
        due("24: known", y.mean(-1, 0, 0), 0);
        y.hide(1);
        Due.law(y, "bars if question=0");
        y.force(0);
        due("24: barred", y.mean(-1, 0, 0), -1);
    }

    private static void heap() {
        HutAnswers x = four();
        due("25: years", x.heap(0), 5);
        due("25: bits", x.heap(1), 3);
        due("25: no such", x.heap(2), -1);
        due("25: below", x.heap(-1), -1);
        Due.law(x, "bars if question=0");
        x.force(0);
        due("25: barred", x.heap(0), 6);
        due("25: others", x.heap(1), 4);
        Due.law(x, "bars if not question=1");
        x.force(1);
        due("25: none", x.heap(0), -1);
        due("25: none, bits", x.heap(1), -1);
        Due.law(x, "ages 3;ages left if question=2");
        x.force(2);
        due("25: by left", x.heap(0), 4);
        Due.law(x, "ages 3;ages 6 if question=2");
        x.force(3);
        due("25: the lowest as bits", x.heap(1), 3);
        x.force(-1);
        x.hide(0);
        x.ask(1);
        due("25: of the known", x.heap(1), 1);
        x.ask(0);
        due("25: nothing is needed", x.heap(1), 0);
        HutAnswers y = new HutAnswers();
        y.thing(1);
        y.thing(1);
        y.question(0, 0, 0);
        y.question(0, 0, Due.answers(0, 1));
        due("25: one that costs nothing is left out", y.heap(1), 2);
    }

    private static void apart() {
        HutAnswers x = four();
        due("26: 0 and 1", x.apart(0, 1), 1);
        due("26: 0 and 2", x.apart(0, 2), 0);
        due("26: one thing", x.apart(1, 1), -1);
        due("26: no such", x.apart(3, 4), -1);
        due("26: no such one", x.apart(4, 3), -1);
        due("26: below", x.apart(-1, 0), -1);
        Due.law(x, "ages 7 if question<2;bars");
        x.force(0);
        due("26: by the law, bars aside", x.apart(0, 3), 2);
        Due.law(x, "ages 6");
        x.force(1);
        due("26: the lowest", x.apart(0, 3), 0);
        x.thing(1);
        due("26: none", x.apart(0, 4), -1);
    }

    private static void order() {
        HutAnswers x = four();
        due("27: years", x.order(7, -1), 11);
        due("27: the first as a row", x.order(7, 0) * 100 + x.order(7, 1) * 10 + x.order(7, 2), 12);
        due("27: some", x.order(5, 1), 2);
        due("27: no such place", x.order(7, 3), -1);
        due("27: place below", x.order(7, -2), -1);
        due("27: none told", x.order(0, -1), 0);
        due("27: none told, no place", x.order(0, 0), -1);
        due("27: no such question", x.order(8, -1), -1);
        due("27: below", x.order(-1, -1), -1);
        for (int i = 3; i < 8; i++) {
            x.question(1, 0, 0);
        }
        due("27: eight", x.order(255, -1), -1);
        due("27: seven", x.order(254, -1), 13);
        x.terms(2, 9986);
        due("27: up to 9,999", x.order(254, -1), 13);
        x.terms(2, 9987);
        due("27: beyond", x.order(254, -1), -1);
    }

    private static void orderByLaw() {
        HutAnswers x = four();
        Due.law(x, "ages age if question=2;ages 5 if question=1;ages 1 if question=0");
        x.force(0);
        due("27: the one by age first", x.order(7, -1), 6);
        due("27: it is the third", x.order(7, 0), 2);
        due("27: then as a row", x.order(7, 1), 0);
        Due.law(x, "bars if question=2 and age<5;bars if question=0 and age>0");
        x.force(1);
        due("27: barred as its turn comes", x.order(7, 0) * 100 + x.order(7, 1) * 10 + x.order(7, 2), 12);
        Due.law(x, "bars if question=1 and age>0;bars if question=0 and age>0");
        x.force(2);
        due("27: it can't be", x.order(3, -1), -1);
        due("27: one can", x.order(1, -1), 3);
        Due.law(x, "ages asked*10+left");
        x.force(3);
        x.hide(0);
        x.ask(0);
        due("27: asked as now, left as known", x.order(3, -1), 12 + 2);
    }

    private static void guess() {
        HutAnswers x = four();
        due("28: nothing asked", x.guess(0, 0, -1, 0), 1);
        due("28: no place in an empty row", x.guess(0, 0, 0, 0), -1);
        due("28: another age", x.guess(1, 0, -1, 0), 0);
        x.terms(2, 8);
        due("28: 2 and 6, 6 and 2", x.guess(0, 2, -1, 7), 2);
        due("28: first row", x.guess(0, 2, 0, 0) * 10 + x.guess(0, 2, 0, 1), 12);
        due("28: second row", x.guess(0, 2, 1, 0) * 10 + x.guess(0, 2, 1, 1), 21);
        due("28: no third", x.guess(0, 2, 2, 0), -1);
        due("28: no such place", x.guess(0, 2, 0, 2), -1);
        due("28: place below", x.guess(0, 2, 0, -1), -1);
        due("28: 3, 3, 2 in any way", x.guess(0, 3, -1, 0), 3);
        due("28: 0, 0, 1", x.guess(0, 3, 0, 2), 1);
        due("28: one, twice the same", x.guess(2, 1, -1, 0) * 10 + x.guess(2, 2, -1, 0), 11);
        due("28: age below", x.guess(-1, 1, -1, 0), -1);
        due("28: age above", x.guess(10000, 1, -1, 0), -1);
        due("28: age at most", x.guess(9999, 1, -1, 0), 0);
        due("28: k below", x.guess(0, -1, -1, 0), -1);
        due("28: k above", x.guess(0, 4, -1, 0), -1);
        due("28: i below", x.guess(0, 1, -2, 0), -1);
        HutAnswers y = new HutAnswers();
        due("28: no questions", y.guess(0, 3, -1, 0), 0);
    }

    private static void guessByLaw() {
        HutAnswers x = four();
        Due.law(x, "ages asked*10+1;ages age if question=2;bars");
        x.force(0);
        x.terms(2, 12);
        due("28: asked as they become, bars aside", x.guess(0, 2, -1, 0), 2);
        due("28: the same twice", x.guess(0, 2, 0, 1) + 10 * x.guess(0, 2, 1, 1), 10);
        x.terms(2, 4);
        due("28: age as it becomes", x.guess(1, 2, -1, 0), 3);
        due("28: 0 then 2, 1 then 2, 2 twice", x.guess(1, 2, 2, 0), 2);
    }

    private static void share() {
        HutAnswers x = four();
        x.visitor(3);
        x.visitor(5);
        due("29: 90 and 120", x.share(0), 210);
        due("29: 90 and 360", x.share(1), 450);
        due("29: no such", x.share(2), -1);
        due("29: below", x.share(-1), -1);
        x.visitor(0);
        due("29: nothing wanted", x.share(2), 0);
        x.visitor(255);
        due("29: by three, two, two; questions there are", x.share(3), 60 + 60 + 180);
        x.question(1, 0, 0);
        for (int i = 4; i < 6; i++) {
            x.visitor(8);
        }
        due("29: cut", x.share(4), 20);
        Due.law(x, "ages 7 if question=3");
        x.force(0);
        due("29: as she ages", x.share(4), 140);
    }

    private static void compare() {
        HutAnswers x = four();
        due("30: none", x.compare(-1), 5);
        due("30: no such", x.compare(0), -1);
        due("30: below", x.compare(-2), -1);
        Due.law(x, "ages 1");
        Due.law(x, "bars");
        x.force(1);
        due("30: by another", x.compare(0), 1);
        due("30: it can't be", x.compare(1), -1);
        due("30: by none", x.compare(-1), 5);
        due("30: that in force stays", x.count(13), 1);
    }

    private static void huts() {
        HutAnswers x = new HutAnswers();
        due("31: -1 goes ahead", x.huts(-1, 1), -1);
        due("31: nothing there", x.huts(0, 1), -3);
        x.thing(1);
        due("31: no questions", x.huts(0, 1), -3);
        x = four();
        due("31: seed above", x.huts(1000001, 1), -1);
        due("31: none", x.huts(0, 0), -1);
        due("31: 41", x.huts(0, 41), -1);
        due("31: one", x.huts(0, 1), 1);
        x.huts(1000000, 40);
        due("31: seed and visits at most", x.status(), 0);
        due("31: the seed 7", x.huts(7, 1), 1);
        due("32: draws 20066, 145077, 31796: thing 2 by questions 0 and 2", x.drawn(3) * 100 + x.drawn(0), 409);
        x.terms(0, 998);
        due("31: at day 999 it ends", x.huts(0, 40), 1);
        due("32: day 999", x.drawn(1), 999);
        x.terms(0, 999);
        due("31: no visit at all", x.huts(0, 40), 0);
        due("31: not refused", x.status(), 0);
        Due.law(x, "bars");
        x.force(0);
        x.terms(0, 0);
        due("31: what is barred is not asked", x.huts(0, 3), 0);
        due("32: no older", x.drawn(0), 0);
        due("32: all known", x.drawn(3), 15);
    }

    private static void hutsOfOneKind() {
        HutAnswers x = new HutAnswers();
        x.thing(1);
        x.question(1, 0, 0);
        due("31: one thing is known at once", x.huts(3, 7), 7);
        due("32: nothing is asked", x.drawn(0), 0);
        x.thing(1);
        due("31: alike for ever", x.huts(3, 7), 0);
        due("32: eight questions a visit", x.drawn(0), 56);
        due("32: eight in the last", x.drawn(4), 8);
        x.terms(2, 9989);
        x.huts(3, 7);
        due("32: her age ends the asking", x.drawn(0), 9999);
        due("32: the days go on", x.drawn(1), 7);
        due("32: none in the last", x.drawn(4), 0);
    }

    private static void drawn() {
        HutAnswers x = four();
        due("32: ahead of any", x.drawn(0), -1);
        x.terms(2, 5);
        x.pour(3);
        x.huts(0, 1);
        due("32: age", x.drawn(0), 11);
        due("32: day", x.drawn(1), 1);
        due("32: tea", x.drawn(2), 2);
        due("32: known", x.drawn(3), 2);
        due("32: asked 0", x.drawn(4), 0);
        due("32: asked 2", x.drawn(6), 1);
        due("32: no such question", x.drawn(7), -1);
        due("32: below", x.drawn(-1), -1);
        due("32: nothing came of it", x.known(0) * 100 + x.count(16), 1505);
        x.question(1, 0, 0);
        due("32: a question that came later was not there", x.drawn(7), -1);
        x.huts(-1, 1);
        due("32: a refused one is none", x.drawn(0), 11);
        x.image(0);
        x.huts(0, 2);
        x.back(0);
        due("32: images do not keep it", x.drawn(1), 2);
    }

    private static void imageAndBack() {
        HutAnswers x = four();
        due("33: below", x.image(-1), -1);
        due("33: above", x.image(2), -1);
        due("34: above", x.back(2), -1);
        due("34: below", x.back(-1), -1);
        due("34: not kept", x.back(1), -2);
        Due.law(x, "ages 1");
        x.force(0);
        x.visitor(1);
        x.hide(2);
        x.ask(0);
        x.pour(4);
        due("33: kept", x.image(1), 0);
        changeAll(x);
        x.feed(0, 0, 0, 0, 0);
        due("34: back", x.back(1), 0);
        int[] counts = {4, 3, 1, 2, 4, 1, 0, 20};
        for (int what = 0; what < counts.length; what++) {
            due("34: count " + what, x.count(what), counts[what]);
        }
        due("34: force, terms", x.count(13) + x.count(14) + x.count(15), 0);
        due("34: age", x.count(16), 1);
        due("34: known", x.known(0), 12);
        due("34: asked", x.of(0, 2), 1);
        due("34: refusals are not kept", x.count(8), 5);
        due("34: the fault is not kept", x.fault(), 0);
        due("34: hens are not kept", x.hens(), 1);
        due("34: where orders stopped is not kept", x.stopped(), 0);
        due("34: the law is", x.of(1, 3), 1);
        due("34: images stay", x.back(1), 0);
        x.end(0);
        due("34: a law in place of the one that went", Due.law(x, "ages 77"), 1);
        x.image(0);
        x.back(1);
        Due.law(x, "ages 55");
        x.back(0);
        x.force(1);
        due("34: each image has its own", x.of(1, 3), 77);
    }

    private static void changeAll(HutAnswers x) {
        x.thing(1);
        x.thing(0);
        Due.put(x, "\1\0\0\0\1");
        x.row();
        x.visitor(2);
        Due.law(x, "ages 2");
        x.force(1);
        for (int what = 0; what < 3; what++) {
            x.terms(what, 7);
        }
        x.hide(-1);
        x.pour(1);
        Due.orders(x, "pour 0");
        Due.law(x, ";");
        x.fault();
    }

    private static void count() {
        HutAnswers x = four();
        due("35: things", x.count(0), 4);
        due("35: questions", x.count(1), 3);
        due("35: below", x.count(-1), -1);
        due("35: above", x.count(17), -1);
        x.thing(0);
        x.force(5);
        x.back(0);
        x.hide(9);
        x.ask(0);
        x.undo();
        x.pass();
        x.row();
        x.law();
        x.orders();
        for (int i = 0; i < 7; i++) {
            x.visitor(1);
        }
        x.of(9, 9);
        x.known(9);
        x.end(-5);
        x.worst(-5, 0, 0);
        due("35: by -1", x.count(8), 1);
        due("35: by -2", x.count(9), 3);
        due("35: by -3", x.count(10), 2);
        due("35: by -5", x.count(11), 1);
        due("35: by -6", x.count(12), 3);
        due("35: visitors", x.count(2), 6);
        Due.orders(x, "pour 10");
        due("35: orders are one call", x.count(8) + 10 * x.count(10), 31);
    }

    private static void status() {
        HutAnswers x = new HutAnswers();
        x.thing(0);
        due("36: -1", x.status(), -1);
        x.feed(0, 0, 0, 0, 0);
        x.end(-1);
        x.known(7);
        x.fault();
        due("36: calls that only look change nothing", x.status(), -1);
        x.end(0);
        x.force(3);
        due("36: -2", x.status(), -2);
        x.undo();
        due("36: -3", x.status(), -3);
        x.law();
        due("36: -6", x.status(), -6);
        x.force(-1);
        due("36: NONE as an answer is no refusal", x.status(), 0);
        x.back(0);
        due("36: back", x.status(), -2);
        x.image(0);
        due("36: image", x.status(), 0);
        x.huts(0, 0);
        due("36: huts", x.status(), -1);
        for (int i = 0; i < 7; i++) {
            Due.law(x, "bars");
        }
        due("36: -5", x.status(), -5);
        x.pass();
        due("36: pass", x.status(), 0);
    }
}
