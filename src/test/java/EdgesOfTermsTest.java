/** The document's 'Terms' I, III and IV, sentence by sentence: just inside each edge, at it, beyond it. */
public final class EdgesOfTermsTest {
    private static final Due DUE = new Due();
    private static final int LOW = Integer.MIN_VALUE;
    private static final int HIGH = Integer.MAX_VALUE;

    public static void main(String[] args) {
        things();
        questions();
        answersAsBits();
        asked();
        hidden();
        known();
        tea();
        visitors();
        terms();
        toAsk();
        allAskedAsItWasAhead();
        toPour();
        aDayPasses();
        toHide();
        draws();
        visits();
        eightTimes();
        asLongAsMoreThanOneIsKnown();
        ifItCanBe();
        rows();
        hensOfRows();
        images();
        imagesKeepAllBut();
        imagesThatHaveNothingInCommon();
        DUE.close("EdgesOfTermsTest");
    }

    private static void due(String what, long got, long want) {
        DUE.same(what, got, want);
    }

    /** 'THINGS 0 .. 7 (8 at most): WEIGHT 1 .. 99.' */
    private static void things() {
        for (int weight : new int[] {LOW, -1, 0, 100, 101, HIGH}) {
            due("I: weight " + weight, new HutAnswers().thing(weight), -1);
        }
        for (int weight : new int[] {1, 2, 50, 98, 99}) {
            HutAnswers x = new HutAnswers();
            due("I: weight " + weight, x.thing(weight), 0);
            due("I: it weighs " + weight, x.known(1), weight);
        }
        HutAnswers x = new HutAnswers();
        for (int i = 0; i < 8; i++) {
            due("I: things ahead of thing " + i, x.count(0), i);
            due("I: thing " + i, x.thing(10 + i), i);
            due("I: all known", x.known(0), (2 << i) - 1);
        }
        due("I: a ninth thing", x.thing(1), -5);
        due("I: there are eight", x.count(0), 8);
        due("I: their weight", x.known(1), 10 + 11 + 12 + 13 + 14 + 15 + 16 + 17);
    }

    /** 'QUESTIONS 0 .. 7 (8 at most): YEARS 0 .. 99, SORT 0 (within) or 1 (without)'. */
    private static void questions() {
        for (int years : new int[] {LOW, -1, 100, 101, HIGH}) {
            due("I: years " + years, new HutAnswers().question(years, 0, 0), -1);
        }
        for (int years : new int[] {0, 1, 98, 99}) {
            HutAnswers x = new HutAnswers();
            due("I: years " + years, x.question(years, 1, 0), 0);
            due("I: it takes " + years, x.of(0, 0), years);
        }
        for (int sort : new int[] {LOW, -1, 2, HIGH}) {
            due("I: sort " + sort, new HutAnswers().question(1, sort, 0), -1);
        }
        for (int sort = 0; sort < 2; sort++) {
            HutAnswers x = new HutAnswers();
            due("I: sort " + sort, x.question(1, sort, 0), 0);
            due("I: it is of sort " + sort, x.of(0, 1), sort);
        }
        HutAnswers x = new HutAnswers();
        for (int i = 0; i < 8; i++) {
            due("I: questions ahead of question " + i, x.count(1), i);
            due("I: not there yet", x.of(i, 0), -1);
            due("I: question " + i, x.question(20 + i, 0, 0), i);
            due("I: there", x.of(i, 0), 20 + i);
        }
        due("I: a ninth question", x.question(1, 0, 0), -5);
        due("I: there are eight", x.count(1), 8);
        due("I: no ninth", x.of(8, 0), -1);
    }

    /** 'for each THING an ANSWER 0 .. 3 (as sixteen bits, two for each THING, THING 0 the lowest)'. */
    private static void answersAsBits() {
        for (int answers : new int[] {LOW, -1, 65536, 65537, HIGH}) {
            due("I: answers " + answers, new HutAnswers().question(1, 0, answers), -1);
        }
        for (int answers : new int[] {0, 1, 0b11_10_01_00_00_01_10_11, 65534, 65535}) {
            HutAnswers x = Scenes.plain(8, 0);
            due("I: answers " + answers, x.question(1, 0, answers), 0);
            for (int t = 0; t < 8; t++) {
                due("I: answers " + answers + " of thing " + t, x.of(0, 6 + t), answers / (1 << 2 * t) % 4);
            }
        }
        HutAnswers x = Scenes.plain(0, 0);
        x.question(1, 0, Due.answers(3, 2));
        due("I: an answer for a thing that is not there", x.of(0, 6), -1);
        x.thing(1);
        due("I: the first thing is there", x.of(0, 6), 3);
        due("I: the second is not", x.of(0, 7), -1);
        x.thing(1);
        due("I: now it is", x.of(0, 7), 2);
    }

    /** Asks question 0 so often that it was asked n times more; n below 1,000. */
    static void askOften(HutAnswers x, int n) {
        for (int left = n; left > 0;) {
            StringBuilder text = new StringBuilder();
            for (int i = 0; i < 12 && left > 0; i++) {
                int times = Math.min(20, left);
                text.append(i == 0 ? "" : ";").append("ask 0 times ").append(times);
                left -= times;
            }
            Due.orders(x, text.toString());
        }
    }

    /** 'ASKED 0 .. 999 (0 at first)'; 'ASKED one more (999 at most)'. */
    private static void asked() {
        HutAnswers x = Scenes.plain(1, 2);
        due("I: asked 0 at first", x.of(0, 2), 0);
        x.hide(0);
        askOften(x, 997);
        due("I: 997 times", x.of(0, 2), 997);
        for (int n : new int[] {998, 999, 999, 999}) {
            due("I: may be asked", x.ask(0), 0);
            due("I: asked " + n + " times", x.of(0, 2), n);
        }
        due("I: the other was not asked", x.of(1, 2), 0);
        x.undo();
        due("I: one of those beyond undone", x.of(0, 2), 999);
        x.undo();
        x.undo();
        due("I: three undone", x.of(0, 2), 998);
    }

    /** 'HIDDEN: a THING, or NONE (at first).' */
    private static void hidden() {
        HutAnswers x = new HutAnswers();
        due("I: none hidden at first", x.count(3), -1);
        for (int i = 0; i < 8; i++) {
            x.thing(1);
        }
        due("I: none hidden as things come", x.count(3), -1);
        for (int t : new int[] {0, 1, 6, 7, -1}) {
            due("I: hide " + t, x.hide(t), 8);
            due("I: hidden " + t, x.count(3), t);
        }
        due("I: thing 8", x.hide(8), -2);
        due("I: thing -2", x.hide(-2), -2);
    }

    /** 'KNOWN: THINGS it can be, as bits (all, as a THING comes, as one is HIDDEN).' */
    private static void known() {
        HutAnswers x = new HutAnswers();
        due("I: nothing known at first", x.known(0), 0);
        x.thing(1);
        due("I: one", x.known(0), 1);
        x.thing(1);
        x.question(0, 0, Due.answers(0, 1, 1));
        x.hide(1);
        x.ask(0);
        due("I: by an answer", x.known(0), 2);
        x.question(0, 0, 0);
        x.visitor(1);
        due("I: not all as a question comes", x.known(0), 2);
        x.thing(1);
        due("I: all as a thing comes", x.known(0), 7);
        x.ask(0);
        due("I: by an answer again", x.known(0), 6);
        due("I: a thing that can't be", x.thing(0), -1);
        due("I: changes nothing", x.known(0), 6);
        x.hide(1);
        due("I: all as one is hidden, the same too", x.known(0), 7);
        x.ask(0);
        x.hide(-1);
        due("I: all as none is hidden", x.known(0), 7);
    }

    /** 'TEA 0 .. 99 (0 at first).' */
    private static void tea() {
        HutAnswers x = new HutAnswers();
        due("I: no tea at first", x.count(4), 0);
        x.pour(1);
        due("I: a cup", x.count(4), 1);
        x.pass();
        due("I: none again", x.count(4), 0);
        x.pass();
        due("I: none at least", x.count(4), 0);
    }

    /** 'VISITORS 0 .. 5 (6 at most): QUESTIONS they WANT, as bits.' */
    private static void visitors() {
        for (int want : new int[] {LOW, -1, 256, 257, HIGH}) {
            due("I: want " + want, new HutAnswers().visitor(want), -1);
        }
        for (int want : new int[] {0, 1, 128, 254, 255}) {
            HutAnswers x = new HutAnswers();
            due("I: want " + want, x.visitor(want), 0);
            for (int q = 0; q < 8; q++) {
                x.question(1 << Math.min(q, 6), 0, 0);
            }
            int years = (want & 127) + (want >> 7) * 64;
            due("I: what they want, as bits", x.share(0), 60 * years);
        }
        HutAnswers x = new HutAnswers();
        for (int i = 0; i < 6; i++) {
            due("I: visitors ahead of " + i, x.count(2), i);
            due("I: not there yet", x.share(i), -1);
            due("I: visitor " + i, x.visitor(0), i);
            due("I: there", x.share(i), 0);
        }
        due("I: a seventh visitor", x.visitor(0), -5);
        due("I: there are six", x.count(2), 6);
    }

    /** 'TERMS: 0 DAY 0 .. 999 (0 at first), 1 MOOD 0 .. 9 (0), 2 AGE 0 .. 9,999 (0).' */
    private static void terms() {
        int[] most = {999, 9, 9999};
        for (int what = 0; what < 3; what++) {
            HutAnswers x = new HutAnswers();
            int before = 0;
            for (int value : new int[] {0, 1, most[what] - 1, most[what], 0}) {
                due("I: term " + what + " becomes " + value, x.terms(what, value), before);
                due("I: term " + what, x.count(14 + what), value);
                before = value;
            }
            x.terms(what, 5);
            for (int value : new int[] {LOW, -1, most[what] + 1, HIGH}) {
                due("I: term " + what + " can't be " + value, x.terms(what, value), -1);
                due("I: term " + what + " stays", x.count(14 + what), 5);
            }
            for (int other = 0; other < 3; other++) {
                due("I: term " + other + " beside " + what, x.count(14 + other), other == what ? 5 : 0);
            }
        }
        for (int what : new int[] {LOW, -1, 3, HIGH}) {
            due("I: no term " + what, new HutAnswers().terms(what, 0), -1);
        }
    }

    /** 'To ASK a QUESTION (a THING is HIDDEN, it is not BARRED, AGE is 9,999 at most then)'. */
    private static void toAsk() {
        HutAnswers x = Scenes.oneQuestion(99, "bars if mood=1");
        due("III: none hidden", x.ask(0), -3);
        x.hide(1);
        due("III: hidden", x.ask(0), 1);
        x.hide(-1);
        due("III: none hidden any longer", x.ask(0), -3);
        x.hide(0);
        x.terms(1, 1);
        due("III: barred", x.ask(0), -3);
        x.terms(1, 0);
        due("III: not barred", x.ask(0), 0);
        for (int age : new int[] {9899, 9900, 9901, 9999}) {
            x.terms(2, age);
            boolean canBe = age <= 9900;
            due("III: 99 years at " + age, x.ask(0), canBe ? 0 : -3);
            due("III: her age behind it", x.count(16), canBe ? age + 99 : age);
        }
        x = Scenes.oneQuestion(0, "turns");
        x.hide(0);
        x.terms(2, 9999);
        due("III: no years at 9,999", x.ask(0), 1);
        due("III: asked once", x.of(0, 2), 1);
        x = Scenes.oneQuestion(5, "ages 1");
        x.hide(0);
        x.terms(2, 9998);
        due("III: by the law to 9,999", x.ask(0), 0);
        due("III: by the law beyond", x.ask(0), -3);
        due("III: 9,999", x.count(16), 9999);
    }

    /** 'KNOWN are those of the KNOWN by which she would answer so; .. all asked as it was ahead.' */
    private static void allAskedAsItWasAhead() {
        HutAnswers x = Scenes.four();
        Due.law(x, "ages left+10*asked;turns if asked=0 and left=4;bars if asked=2");
        x.force(0);
        x.hide(3);
        due("III: turned, since it was not asked and four were left", x.ask(2), 0);
        due("III: older by the four that were left", x.count(16), 4);
        due("III: known by what she would answer", x.known(0), 8);
        due("III: not turned the second time", x.ask(2), 3);
        due("III: older by one left, once asked", x.count(16), 4 + 11);
        due("III: barred the third time", x.ask(2), -3);
        x.hide(1);
        due("III: by question 1", x.ask(1), 2);
        due("III: two known", x.known(0), 10);
        due("III: then by question 0, those of the known", x.ask(0), 0);
        due("III: one known", x.known(0), 2);
        due("III: older by 4 and 2", x.count(16), 15 + 4 + 2);
    }

    /** 'To POUR: TEA is more by 1 .. 9 cups (99 at most).' */
    private static void toPour() {
        for (int cups : new int[] {LOW, -1, 0, 10, HIGH}) {
            due("III: cups " + cups, new HutAnswers().pour(cups), -1);
        }
        for (int cups : new int[] {1, 2, 8, 9}) {
            due("III: cups " + cups, new HutAnswers().pour(cups), cups);
        }
        HutAnswers x = new HutAnswers();
        Due.orders(x, "pour 9 times 10");
        due("III: 98", x.pour(8), 98);
        due("III: 99", x.pour(1), 99);
        due("III: 99 and 1", x.pour(1), 99);
        x.pass();
        due("III: 98 and 9", x.pour(9), 99);
        due("III: that is undone", x.undo() * 1000 + x.count(4), 1098);
        x.undo();
        due("III: 99 and 9", x.pour(9), 99);
    }

    /** 'A DAY passes (DAY below 999): TEA is one less (0 at least).' */
    private static void aDayPasses() {
        HutAnswers x = new HutAnswers();
        x.pour(2);
        int[] tea = {1, 0, 0};
        for (int i = 0; i < 3; i++) {
            due("III: day", x.pass(), i + 1);
            due("III: tea", x.count(4), tea[i]);
        }
        x.terms(0, 997);
        x.pour(9);
        due("III: day 998", x.pass(), 998);
        due("III: day 999", x.pass(), 999);
        due("III: no day 1,000", x.pass(), -3);
        due("III: nor tea less", x.count(4), 7);
        x.terms(0, 998);
        due("III: once more", x.pass(), 999);
    }

    /** 'To HIDE a THING, or none: KNOWN are all THINGS, ASKED 0 of all QUESTIONS.' */
    private static void toHide() {
        for (int t = -1; t < 2; t += 2) {
            HutAnswers x = Scenes.plain(2, 7);
            x.question(0, 0, Due.answers(0, 1));
            x.hide(0);
            for (int q = 0; q < 8; q++) {
                x.ask(q);
            }
            due("III: one known", x.known(0), 1);
            due("III: hide " + t, x.hide(t), 2);
            due("III: all known", x.known(0), 3);
            for (int q = 0; q < 8; q++) {
                due("III: asked 0 of question " + q, x.of(q, 2), 0);
            }
        }
    }

    /** 's becomes (s times 1103 and 12345) modulo 1,000,003, it is s modulo m.' */
    private static void draws() {
        for (int seed : new int[] {0, 1, 906, 907, 1946, 500000, 999999, 1000000}) {
            HutAnswers x = new HutAnswers();
            for (int t = 0; t < 8; t++) {
                x.thing(1);
            }
            x.question(0, 0, Due.answers(0, 1, 2, 3, 0, 1, 2, 3));
            x.question(0, 0, Due.answers(0, 0, 0, 0, 1, 1, 1, 1));
            long s = (seed * 1103L + 12345) % 1000003;
            int hidden = (int) (s % 8);
            int known = 255;
            int[] asked = new int[2];
            for (int i = 0; i < 8 && Integer.bitCount(known) > 1; i++) {
                s = (s * 1103 + 12345) % 1000003;
                int q = (int) (s % 2);
                asked[q]++;
                known &= q == 0 ? 17 << hidden % 4 : hidden < 4 ? 15 : 240;
            }
            due("IV: seed " + seed, x.huts(seed, 1), Integer.bitCount(known) == 1 ? 1 : 0);
            due("IV: known by seed " + seed, x.drawn(3), known);
            due("IV: asked 0 by seed " + seed, x.drawn(4), asked[0]);
            due("IV: asked 1 by seed " + seed, x.drawn(5), asked[1]);
        }
    }

    /** 'HUTS with a SEED (0 .. 1,000,000), n visits 1 .. 40, on paper'; 'at DAY 999 it ends'. */
    private static void visits() {
        HutAnswers x = Scenes.plain(1, 1);
        for (int seed : new int[] {LOW, -1, 1000001, HIGH}) {
            due("IV: seed " + seed, x.huts(seed, 1), -1);
        }
        for (int seed : new int[] {0, 1, 999999, 1000000}) {
            due("IV: seed " + seed, x.huts(seed, 1), 1);
        }
        for (int n : new int[] {LOW, -1, 0, 41, HIGH}) {
            due("IV: visits " + n, x.huts(0, n), -1);
        }
        for (int n : new int[] {1, 2, 39, 40}) {
            due("IV: visits " + n, x.huts(0, n), n);
            due("IV: as many days", x.drawn(1), n);
            due("IV: on paper", x.count(14), 0);
        }
        for (int day : new int[] {958, 959, 960, 997, 998, 999}) {
            x.terms(0, day);
            due("IV: 40 visits from day " + day, x.huts(0, 40), Math.min(40, 999 - day));
            due("IV: up to day 999", x.drawn(1), Math.min(999, day + 40));
            due("IV: not refused", x.status(), 0);
        }
        x.terms(0, 0);
        Due.orders(x, "pour 9 times 2");
        x.huts(0, 17);
        due("IV: tea goes by a day", x.drawn(2), 1);
        x.huts(0, 18);
        due("IV: to none", x.drawn(2), 0);
        x.huts(0, 19);
        due("IV: and no further", x.drawn(2), 0);
        due("IV: on paper", x.count(4), 18);
    }

    /** 'eight times, as long as more than one is KNOWN, a DRAW of QUESTIONS: that is ASKED'. */
    private static void eightTimes() {
        HutAnswers x = Scenes.plain(2, 1);
        due("IV: none told apart", x.huts(0, 1), 0);
        due("IV: asked eight times", x.drawn(4), 8);
        due("IV: both are known", x.drawn(3), 3);
        due("IV: again in the second visit", x.huts(0, 2), 0);
        due("IV: asked in the last visit alone", x.drawn(4), 8);
        due("IV: asked 0 but on paper", x.of(0, 2), 0);
        Due.law(x, "ages 1");
        x.force(0);
        x.huts(0, 2);
        due("IV: eight a visit by age", x.drawn(0), 16);
        due("IV: on paper", x.count(16), 0);
    }

    private static void asLongAsMoreThanOneIsKnown() {
        HutAnswers x = Scenes.plain(1, 1);
        due("IV: one thing is known ahead of all questions", x.huts(0, 1), 1);
        due("IV: so none is asked", x.drawn(4), 0);
        x = Scenes.plain(2, 0);
        x.question(7, 0, Due.answers(0, 1));
        due("IV: two are told apart by one question", x.huts(0, 3), 3);
        due("IV: which is asked once in the last visit", x.drawn(4), 1);
        due("IV: and once in each", x.drawn(0), 21);
    }

    /** 'that is ASKED, if it can be' */
    private static void ifItCanBe() {
        HutAnswers x = Scenes.oneQuestion(5, "bars if asked=3;ages 1");
        x.thing(1);
        x.terms(2, 9996);
        x.force(-1);
        due("IV: too old", x.huts(0, 2), 0);
        due("IV: she stays so", x.drawn(0), 9996);
        due("IV: a day passes all the same", x.drawn(1), 2);
        HutAnswers y = Scenes.plain(2, 1);
        Due.law(y, "bars if asked=3;ages 1");
        y.force(0);
        y.huts(0, 2);
        due("IV: barred from the fourth time on", y.drawn(4), 3);
        due("IV: three a visit", y.drawn(0), 6);
        y.terms(2, 9997);
        y.huts(0, 2);
        due("IV: by age 9,999 two at most", y.drawn(0), 9999);
        due("IV: none in the second visit", y.drawn(4), 0);
        y.huts(0, 1);
        due("IV: two in the first", y.drawn(4), 2);
    }

    /** 'the TAPE's bytes by fours: YEARS, SORT, ANSWERS (256 times the first byte and the second)'. */
    private static void rows() {
        HutAnswers x = Scenes.plain(8, 0);
        Due.put(x, "\143\1\377\377" + "\0\0\0\0" + "\142\0\200\1");
        due("IV: three questions", x.row(), 3);
        due("IV: no hens", x.hens(), 0);
        int[][] want = {{99, 1, 3, 3, 3, 3, 3, 3, 3, 3}, {0, 0, 0, 0, 0, 0, 0, 0, 0, 0}, {98, 0, 1, 0, 0, 0, 0, 0, 0, 2}};
        for (int q = 0; q < 3; q++) {
            due("IV: years of " + q, x.of(q, 0), want[q][0]);
            due("IV: sort of " + q, x.of(q, 1), want[q][1]);
            due("IV: asked of " + q, x.of(q, 2), 0);
            for (int t = 0; t < 8; t++) {
                due("IV: answer of " + q + " for " + t, x.of(q, 6 + t), want[q][2 + t]);
            }
        }
    }

    private static void row(String bytes, int came, int hens) {
        HutAnswers x = new HutAnswers();
        Due.put(x, bytes);
        due("IV: a row of " + bytes.length() + " bytes", x.row(), came);
        due("IV: how many are there", x.count(1), came);
        due("IV: its hens", x.hens(), hens);
        due("IV: not refused", x.status(), 0);
        due("IV: the tape is empty", x.count(7), 0);
    }

    /** 'one that can't be, one within which the TAPE ends, one for which there is no room is a HEN'. */
    private static void hensOfRows() {
        row("\143\1\0\0", 1, 0);
        row("\144\1\0\0", 0, 1);
        row("\377\1\0\0", 0, 1);
        row("\200\1\0\0", 0, 1);
        row("\143\2\0\0", 0, 1);
        row("\143\377\0\0", 0, 1);
        row("\0\0\0", 0, 1);
        row("\0\0", 0, 1);
        row("\0", 0, 1);
        row("\0\0\0\0\0", 1, 1);
        row("\0\0\0\0\0\0\0", 1, 1);
        row("\0\0\0\0\0\0\0\0", 2, 0);
        row("\144\0\0\0\0\0\0\0", 1, 1);
        row("\0\0\0\0".repeat(7), 7, 0);
        row("\0\0\0\0".repeat(8), 8, 0);
        row("\0\0\0\0".repeat(9), 8, 1);
        row("\0\0\0\0".repeat(9) + "\0", 8, 2);
        row("\0\0\0\0".repeat(100), 8, 92);
        row("\0\2\0\0".repeat(93) + "\0\0\0\0".repeat(7), 7, 93);
        row("\0\2\0\0".repeat(92) + "\0\0\0\0".repeat(7) + "\144\0\0\0", 7, 93);
    }

    /** 'IMAGES 0, 1'; 'BACK to one all that it keeps is as it was then (IMAGES stay).' */
    private static void images() {
        HutAnswers x = new HutAnswers();
        for (int k : new int[] {LOW, -1, 2, HIGH}) {
            due("IV: image " + k, x.image(k), -1);
            due("IV: back " + k, x.back(k), -1);
        }
        due("IV: 0 not kept", x.back(0), -2);
        due("IV: 0 kept", x.image(0), 0);
        due("IV: 1 not kept", x.back(1), -2);
        x.pour(3);
        due("IV: 1 kept", x.image(1), 0);
        x.pour(4);
        due("IV: back to 1", x.back(1) * 100 + x.count(4), 3);
        due("IV: back to 0", x.back(0) * 100 + x.count(4), 0);
        due("IV: back to 1 again", x.back(1) * 100 + x.count(4), 3);
        x.pour(5);
        x.image(1);
        due("IV: 0 stays as 1 is kept anew", x.back(0) * 100 + x.count(4), 0);
        due("IV: 1 is as it was kept last", x.back(1) * 100 + x.count(4), 8);
    }

    /** 'keep all but the TAPE, FAULT, HENS, where ORDERS stopped, what can be undone, the latest HUTS'. */
    private static void imagesKeepAllBut() {
        HutAnswers x = Scenes.middle();
        x.image(1);
        Sight then = new Sight(x);
        x.law();
        x.force(2);
        x.thing(9);
        Due.put(x, "\1\1\1\1" + "\2\2\2\2".repeat(5));
        x.row();
        x.visitor(7);
        for (int what = 0; what < 3; what++) {
            x.terms(what, what == 1 ? 9 : 500);
        }
        x.huts(3, 5);
        x.hide(4);
        x.ask(1);
        x.pour(1);
        Due.orders(x, "pass;pass;pour 10");
        Due.law(x, "turns if 7");
        Due.put(x, "hide 4");
        Sight now = new Sight(x);
        due("IV: back", x.back(1), 0);
        then.put("count(6)", 0);
        then.put("status()", 0);
        String[] notKept = {"count(7)", "count(8)", "count(9)", "count(10)", "count(11)", "count(12)",
            "fault()", "stopped()", "hens()"};
        for (String call : notKept) {
            then.put(call, now.get(call));
        }
        for (int what = 0; what < 12; what++) {
            then.put("drawn(" + what + ")", now.get("drawn(" + what + ")"));
        }
        then.hold(DUE, "IV: back", new Sight(x));
        due("IV: the fault is that of the latest text", x.fault(), 10);
        due("IV: the hens are those of the latest row", x.hens(), 5);
        due("IV: orders stopped as the latest did", x.stopped(), 2);
        due("IV: the tape is as it was", x.count(7), 6);
        due("IV: and is read as such", x.orders(), -3);
        due("IV: nothing can be undone", x.undo(), -3);
    }

    /** Another hut in each image: of none of them anything shows in the other. */
    private static void imagesThatHaveNothingInCommon() {
        HutAnswers x = new HutAnswers();
        x.image(1);
        one(x);
        x.image(0);
        Sight first = new Sight(x);
        x.back(1);
        due("IV: an empty one", x.count(0) + x.count(1) + x.count(2) + x.count(5), 0);
        other(x);
        x.image(1);
        Sight second = new Sight(x);
        for (int i = 0; i < 2; i++) {
            x.back(0);
            first.put("count(6)", 0);
            first.hold(DUE, "IV: back to the first", new Sight(x));
            x.back(1);
            second.put("count(6)", 0);
            second.hold(DUE, "IV: back to the second", new Sight(x));
        }
        x.back(0);
        x.thing(50);
        x.question(60, 1, 0);
        due("IV: a question that comes behind was never asked", x.of(2, 2), 0);
        due("IV: the things go on", x.known(1), 5 + 7 + 50);
    }

    private static void one(HutAnswers x) {
        x.thing(5);
        x.thing(7);
        x.question(3, 1, Due.answers(0, 1));
        x.question(4, 0, Due.answers(2, 1));
        x.visitor(1);
        x.visitor(3);
        Due.law(x, "ages years*2+asked;turns if sort=1");
        x.force(0);
        x.hide(1);
        x.ask(0);
        x.pour(4);
    }

    private static void other(HutAnswers x) {
        x.thing(11);
        x.thing(13);
        x.thing(17);
        x.question(9, 0, Due.answers(1, 0, 3));
        x.question(8, 1, Due.answers(0, 0, 1));
        x.question(7, 1, Due.answers(2, 3, 3));
        x.visitor(7);
        x.visitor(2);
        x.visitor(5);
        Due.law(x, "ages 9-question");
        Due.law(x, "ages years+5;bars if sort=0");
        x.force(1);
        x.terms(0, 77);
        x.terms(1, 8);
        x.terms(2, 99);
        x.hide(2);
        x.ask(2);
        x.ask(1);
    }
}
