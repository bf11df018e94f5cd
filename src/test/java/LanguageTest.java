/** Promises 11 to 14: laws and orders, where they can't be read, what they do. */
public final class LanguageTest {
    private static final Due DUE = new Due();

    public static void main(String[] args) {
        laws();
        lawRoom();
        faultsOfLaws();
        faultsOfOrders();
        limits();
        sums();
        tests();
        clausesThatHold();
        lawWords();
        runs();
        orderWords();
        whollyOrNotAtAll();
        faultAndStopped();
        DUE.close("LanguageTest");
    }

    private static void due(String what, long got, long want) {
        DUE.same(what, got, want);
    }

    private static void faultOfLaw(String text, int place) {
        HutAnswers x = new HutAnswers();
        due("11: law " + text, Due.law(x, text), place < 0 ? 0 : -6);
        due("13: fault of " + text, x.fault(), place);
        due("11: the tape is empty behind " + text, x.count(7), 0);
        due("11: laws behind " + text, x.count(5), place < 0 ? 1 : 0);
    }

    private static void faultOfOrders(String text, int place) {
        HutAnswers x = new HutAnswers();
        due("12: orders " + text, Due.orders(x, text) == -6 ? 1 : 0, place < 0 ? 0 : 1);
        due("13: fault of " + text, x.fault(), place);
        due("12: the tape is empty behind " + text, x.count(7), 0);
    }

    private static void laws() {
        faultOfLaw("turns", -1);
        faultOfLaw("  turns  ", -1);
        faultOfLaw("ages3if1<2", -1);
        faultOfLaw("ages 1 + 2 * [3-4] / 5 % 6 if not not (1=1 or 2>1) and 1<2;bars;turns if day=day", -1);
        faultOfLaw("ages question+years+sort+age+asked+left+tea+day+mood", -1);
        faultOfLaw("ages 1000", -1);
        faultOfLaw("ages 0000000000000000000001000", -1);
        faultOfLaw("bars if " + "not ".repeat(97) + "1=1", -1);
    }

    private static void lawRoom() {
        HutAnswers x = new HutAnswers();
        for (int i = 0; i < 6; i++) {
            due("11: law " + i, Due.law(x, "bars"), i);
        }
        due("11: a faulty one without room", Due.law(x, "bars bars"), -5);
        due("13: was not read", x.fault(), -1);
        due("11: the tape is empty", x.count(7), 0);
        due("11: an empty one without room", x.law(), -5);
    }

    private static void faultsOfLaws() {
        faultOfLaw("", 0);
        faultOfLaw("   ", 3);
        faultOfLaw("ages", 4);
        faultOfLaw("ages   ", 7);
        faultOfLaw(" age 1", 1);
        faultOfLaw("ages1ages", 5);
        faultOfLaw("ages 1001", 5);
        faultOfLaw("ages 99999999999999999999", 5);
        faultOfLaw("ages -1", 5);
        faultOfLaw("ages 1 -", 8);
        faultOfLaw("ages 1+*2", 7);
        faultOfLaw("ages (1)", 5);
        faultOfLaw("ages [1", 7);
        faultOfLaw("ages [1)", 7);
        faultOfLaw("ages [1=1]", 7);
        faultOfLaw("ages done", 5);
        faultOfLaw("ages answer", 5);
        faultOfLaw("ages asked 1", 11);
        faultOfLaw("ages 1 times 2", 7);
        faultOfLaw("ages not", 5);
        faultOfLaw("Ages 1", 0);
        faultOfLaw("turns 1", 6);
        faultOfLaw("turns if", 8);
        faultOfLaw("turns if 1", 10);
        faultOfLaw("turns if 1=", 11);
        faultOfLaw("turns if 1==1", 11);
        faultOfLaw("turns if 1<2<3", 12);
        faultOfLaw("turns if (1<2", 13);
        faultOfLaw("turns if (1<2]", 13);
        faultOfLaw("turns if (1)<2", 11);
        faultOfLaw("turns if 1=1 or", 15);
        faultOfLaw("turns if 1=1 and or", 17);
        faultOfLaw("turns if 1=1 if 1=1", 13);
        faultOfLaw("turns;", 6);
        faultOfLaw("turns;;bars", 6);
        faultOfLaw(";turns", 0);
        faultOfLaw("turns,bars", 5);
        faultOfLaw("turns if day\0=1", 12);
        faultOfLaw("turns if day\u00ff=1", 12);
        faultOfLaw("turns if dayday=1", 9);
        faultOfLaw("ask 1", 0);
    }

    private static void faultsOfOrders() {
        faultOfOrders("", 0);
        faultOfOrders("  ", 2);
        faultOfOrders("pass", -1);
        faultOfOrders("pass times 20 if 1=1;pass times 1", -1);
        faultOfOrders("pass if asked0=asked 7", -1);
        faultOfOrders("pass times 0", 11);
        faultOfOrders("pass times 21", 11);
        faultOfOrders("pass times day", 11);
        faultOfOrders("pass times", 10);
        faultOfOrders("pass times 1+1", 12);
        faultOfOrders("pass if 1=1 times 2", 12);
        faultOfOrders("pass 1", 5);
        faultOfOrders("ask", 3);
        faultOfOrders("ask if", 4);
        faultOfOrders("ask asked", 9);
        faultOfOrders("ask asked 8", 10);
        faultOfOrders("ask asked day", 10);
        faultOfOrders("ask asked [1]", 10);
        faultOfOrders("pour years", 5);
        faultOfOrders("pour mood", 5);
        faultOfOrders("hide question", 5);
        faultOfOrders("hide sort", 5);
        faultOfOrders("hide -1", 5);
        faultOfOrders("turns", 0);
    }

    private static void limits() {
        String twelve = "turns" + ";turns".repeat(11);
        faultOfLaw(twelve, -1);
        faultOfLaw(twelve + ";", twelve.length() + 1);
        faultOfLaw(twelve + "; turns", twelve.length() + 2);
        faultOfLaw(twelve + ";;", twelve.length() + 1);
        faultOfLaw(twelve + " turns", twelve.length() + 1);
        String fifty = "ages 1" + "+1".repeat(49);
        faultOfLaw(fifty, -1);
        faultOfLaw(fifty + "+day", fifty.length() + 1);
        faultOfLaw(fifty + "+[1]", fifty.length() + 2);
        faultOfLaw(fifty + ";turns;bars", -1);
        faultOfLaw(fifty + ";turns if 1=1", fifty.length() + 10);
        String orders = "pass times 3 if asked3" + "+asked3".repeat(48) + "=";
        faultOfOrders(orders + "0", -1);
        faultOfOrders(orders + "0+1", orders.length() + 2);
        faultOfLaw("ages " + "[".repeat(8) + "1" + "]".repeat(8), -1);
        faultOfLaw("ages " + "[".repeat(9) + "1" + "]".repeat(9), 13);
        faultOfLaw("bars if " + "(".repeat(8) + "1=1" + ")".repeat(8), -1);
        faultOfLaw("bars if " + "(".repeat(9) + "1=1" + ")".repeat(9), 16);
        faultOfLaw("bars if ((((([[[1]]]=1)))))", -1);
        faultOfLaw("bars if ((((([[[[1]]]]=1)))))", 16);
        faultOfLaw("ages [[[[[[[[1]]]]]]]]+[[[[[[[[1]]]]]]]]", -1);
        String long400 = " ".repeat(395) + "turns";
        faultOfLaw(long400, -1);
        faultOfLaw(" ".repeat(396) + "turn", 396);
    }

    /** What a SUM of numbers comes to, by how she ages; 98 is what its BROKEN "ages" leaves. */
    private static void sum(String sum, int want) {
        HutAnswers x = new HutAnswers();
        x.question(98, 0, 0);
        Due.law(x, "ages " + sum);
        x.force(0);
        due("11: ages " + sum, x.of(0, 3), want);
    }

    private static void sums() {
        sum("2+3*4", 14);
        sum("[2+3]*4", 20);
        sum("9-3-2", 4);
        sum("64/4/2", 8);
        sum("7%4*2", 6);
        sum("[0-7]/2+9", 6);
        sum("[0-7]%4+9", 6);
        sum("7%[0-4]", 3);
        sum("1-2", 0);
        sum("100", 99);
        sum("1/0", 98);
        sum("1%0", 98);
        sum("0*[1/0]", 98);
        sum("1000*1000*1000/1000/1000/100", 10);
        sum("[1000*1000*1000+1]/1000", 98);
        sum("1000*1000*1000*2/1000/1000/1000", 98);
        sum("[0-1000]*1000*1000+3", 0);
        sum("[0-1000]*1000*1000-1", 98);
    }

    /** Whether a TEST is so, not so, or BROKEN (which "not" does not make so). */
    private static void test(String test, String outcome) {
        HutAnswers x = new HutAnswers();
        x.question(1, 0, 0);
        Due.law(x, "turns if " + test + ";bars if not (" + test + ")");
        x.force(0);
        due("11: if " + test, x.of(0, 4), outcome.equals("so") ? 1 : 0);
        due("11: if not " + test, x.of(0, 5), outcome.equals("not") ? 1 : 0);
    }

    private static void tests() {
        test("1<2", "so");
        test("2<2", "not");
        test("3>2", "so");
        test("2>2", "not");
        test("2=2", "so");
        test("1=2", "not");
        test("not 1=2", "so");
        test("not not 1=2", "not");
        test("1=1 or 1=2 and 1=2", "so");
        test("(1=1 or 1=2) and 1=2", "not");
        test("not 1=2 and 1=1", "so");
        test("not (1=2 and 1=1)", "so");
        test("1=2 or 1=2 or 1=1", "so");
        test("1=1 and 1=1 and 1=2", "not");
        test("1=2 and 1=1 or 1=1", "so");
        test("1/0=1", "broken");
        test("1=1 or 1/0=1", "so");
        test("1=2 or 1/0=1", "broken");
        test("1=2 and 1/0=1", "not");
        test("1=1 and 1/0=1", "broken");
        test("1/0=1 or 1=1", "broken");
        test("1/0=1 and 1=2", "broken");
        test("1=2 and 1/0=1 or 1=1", "so");
        test("1=1 or 1/0=1 or 1/0=1", "so");
        test("1=1 or 1=1 and 1/0=1", "so");
        test("not (1=1 or 1/0=1)", "not");
    }

    private static void clausesThatHold() {
        HutAnswers x = new HutAnswers();
        x.question(7, 0, 0);
        String[] laws = {
            "ages 1;ages 2;ages 3 if 1=2", "ages 1;ages 1/0;ages 2 if 1/0=1", "ages 4 if 1=2",
            "turns if 1=2;turns;bars;bars if 1/0=1", "ages 5;turns if 1=2", "ages 200;bars if 1=1"};
        int[] years = {2, 1, 7, 7, 5, 99};
        int[] turns = {0, 0, 0, 1, 0, 0};
        int[] bars = {0, 0, 0, 1, 0, 1};
        for (int i = 0; i < laws.length; i++) {
            Due.law(x, laws[i]);
            x.force(i);
            due("11: years by " + laws[i], x.of(0, 3), years[i]);
            due("11: turns by " + laws[i], x.of(0, 4), turns[i]);
            due("11: bars by " + laws[i], x.of(0, 5), bars[i]);
        }
    }

    private static void lawWords() {
        HutAnswers x = new HutAnswers();
        for (int i = 0; i < 3; i++) {
            x.thing(1);
        }
        x.question(0, 0, 0);
        x.question(11, 1, Due.answers(0, 0, 1));
        x.terms(0, 21);
        x.terms(1, 6);
        x.pour(8);
        x.hide(0);
        x.ask(1);
        x.ask(1);
        x.ask(1);
        String[] words = {"question", "years", "sort", "age", "asked", "left", "tea", "day", "mood"};
        int[] worth = {1, 11, 1, 33, 3, 2, 8, 21, 6};
        for (int i = 0; i < 9; i++) {
            x.image(0);
            due("11: law", Due.law(x, "ages " + words[i]), 0);
            x.force(0);
            due("11: " + words[i], x.of(1, 3), worth[i]);
            x.back(0);
        }
    }

    private static HutAnswers two() {
        HutAnswers x = new HutAnswers();
        x.thing(1);
        x.thing(9);
        x.question(1, 0, Due.answers(0, 1));
        x.question(3, 1, Due.answers(0, 2));
        return x;
    }

    private static void runs() {
        HutAnswers x = two();
        due("12: six run", Due.orders(x, "hide 1;ask 1;pour 9 times 2;pass times 5 if tea>16;pour answer if 1=2"), 6);
        due("12: tea", x.count(4), 16);
        due("12: day", x.count(14), 2);
        due("12: age", x.count(16), 3);
        due("12: known", x.known(0), 2);
        due("12: can be undone", x.count(6), 6);
        due("12: status", x.status(), 0);
        due("12: a broken if is not run", Due.orders(x, "pass if 1/0=1;pass if not 1/0=1"), 0);
        due("12: hide none", Due.orders(x, "hide 0-1"), 1);
        due("12: hidden", x.count(3), -1);
        due("12: if is asked each time", Due.orders(x, "pass times 20 if day<5"), 3);
    }

    private static void orderWords() {
        HutAnswers x = two();
        x.terms(0, 4);
        due("12: answer -1 at first", Due.orders(x, "pour answer+2;pour 1+done;pour day"), 3);
        due("12: 1 + 2 + 4", x.count(4), 7);
        due("12: a question that is not there", Due.orders(x, "pour 5+asked 7"), 1);
        due("12: 4 cups", x.count(4), 11);
        due("12: asked, left, answer", Due.orders(x, "hide 1;ask 1;ask 1;pour asked 1;pour left;pour answer"), 6);
        due("12: 2 + 1 + 2", x.count(4), 16);
        due("12: answer is of this text alone", Due.orders(x, "pour 2+answer"), 1);
        due("12: 1", x.count(4), 17);
        due("12: age and tea", Due.orders(x, "pour age;pour tea/10 if age=6;pass if tea=25"), 3);
        due("12: 6 + 2 - 1", x.count(4), 24);
        due("12: done counts each time", Due.orders(x, "pour 1 times 3;pour done"), 4);
        due("12: 3 + 3", x.count(4), 30);
        due("12: asked of each", Due.orders(x, "ask 0;pour asked 1;pour asked 0"), 3);
        due("12: 2 + 1", x.count(4), 33);
    }

    private static void whollyOrNotAtAll() {
        HutAnswers x = two();
        x.hide(1);
        x.pour(5);
        String[] bad = {"ask 2", "ask 0-1", "pour 0", "pour 10", "hide 2", "hide 0-2", "pour 1/0", "ask 1/0",
            "hide 1/0", "hide 0-1;ask 0", "pass times 20 if 1=1;pour 1;hide 9"};
        int[] clause = {0, 0, 0, 0, 0, 0, 0, 0, 0, 1, 2};
        for (int i = 0; i < bad.length; i++) {
            due("12: " + bad[i], Due.orders(x, "ask 0;pass;hide 0;" + bad[i]), -3);
            due("14: " + bad[i], x.stopped(), 3 + clause[i]);
            due("12: all as it was", x.count(3) + x.count(4) + x.count(14) + x.count(16) + x.of(0, 2), 6);
            due("12: known as it was", x.known(0), 3);
            due("12: undo as it was", x.count(6), 2);
        }
        due("12: refused but once each", x.count(10), bad.length);
        x.terms(0, 990);
        due("12: days end", Due.orders(x, "pass times 10"), -3);
        due("12: nine are left", Due.orders(x, "pass times 9"), 9);
        Due.law(x, "bars if asked>0");
        x.force(0);
        due("12: barred the second time", Due.orders(x, "ask 0 times 2"), -3);
        due("12: not the first", Due.orders(x, "ask 0"), 1);
    }

    private static void faultAndStopped() {
        HutAnswers x = two();
        Due.law(x, "turns x");
        due("13: of a law", x.fault(), 6);
        Due.orders(x, "pour 0");
        due("13: none in what can be read", x.fault(), -1);
        due("14: the first", x.stopped(), 0);
        Due.law(x, "turns");
        due("14: a law changes nothing", x.stopped(), 0);
        Due.orders(x, "pass x");
        due("13: of orders", x.fault(), 5);
        due("14: what can't be read is not stopped", x.stopped(), -1);
        Due.orders(x, "pass;pour 0");
        due("14: the second", x.stopped(), 1);
        Due.orders(x, "pass");
        due("14: none", x.stopped(), -1);
    }
}
