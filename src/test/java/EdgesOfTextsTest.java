/** The document's 'Terms' II and promises 11 to 14, sentence by sentence: inside each edge, at it, beyond it. */
public final class EdgesOfTextsTest {
    private static final Due DUE = new Due();

    public static void main(String[] args) {
        tape();
        tokensByEachByte();
        longestRows();
        twelveClauses();
        grammarByShortTexts();
        numbersToAThousand();
        fiftyParts();
        fiftyPartsOfOrders();
        eightBrackets();
        theEndsFault();
        beyondAThousandMillion();
        dividedByNothing();
        cutTowardsNothing();
        brokenTests();
        onlyIfItCanStillMatter();
        sixLaws();
        wordsOfLaws();
        theLastThatHolds();
        theNearest();
        oneMoreThanTheAnswer();
        barred();
        numbersOfOrders();
        times();
        wordsOfOrders();
        eachTimeItsIfIsAsked();
        runsAndStops();
        textsThatAreRead();
        manyTexts();
        bytesBehindTheEnd();
        DUE.close("EdgesOfTextsTest");
    }

    private static void due(String what, long got, long want) {
        DUE.same(what, got, want);
    }

    private static String brief(String text) {
        return text.length() < 80 ? text : text.substring(0, 76) + " ..";
    }

    /** The FAULT of a text as a law; -1: it is one. */
    private static void law(String text, int place) {
        HutAnswers x = new HutAnswers();
        due("11: law " + brief(text), Due.law(x, text), place < 0 ? 0 : -6);
        due("13: fault of " + brief(text), x.fault(), place);
        due("11: how many laws", x.count(5), place < 0 ? 1 : 0);
    }

    /** The FAULT of a text as orders, which may be run or not; -1: they can be read. */
    private static void orders(String text, int place) {
        HutAnswers x = new HutAnswers();
        int came = Due.orders(x, text);
        due("12: orders " + brief(text), came == -6 ? 1 : 0, place < 0 ? 0 : 1);
        due("13: fault of " + brief(text), x.fault(), place);
    }

    /** 'TEXTS are on a TAPE of at most 400 bytes.' */
    private static void tape() {
        HutAnswers x = new HutAnswers();
        for (int n = 20; n <= 400; n += 20) {
            due("II: so many bytes", x.feed(0, 0, 0, 0, 0), n);
        }
        due("II: no 420", x.feed(0, 0, 0, 0, 0), -1);
        due("II: 400 stay", x.count(7), 400);
        for (int n : new int[] {399, 390, 381}) {
            x.end(n);
            due("II: nor " + (n + 20), x.feed(0, 0, 0, 0, 0), -1);
            due("II: these stay", x.count(7), n);
        }
        x.end(380);
        due("II: but 400", x.feed(0, 0, 0, 0, 0), 400);
        law("turns" + " ".repeat(395), -1);
        law(" ".repeat(395) + "turns", -1);
        law(" ".repeat(400), 400);
        law("turns" + " ".repeat(394) + "x", 399);
        law("turns" + " ".repeat(394) + ";", 400);
        orders("pass" + " ".repeat(396), -1);
        orders(" ".repeat(399) + "1", 399);
    }

    private static boolean isLetter(int b) {
        return b >= 'a' && b <= 'z';
    }

    private static boolean isDigit(int b) {
        return b >= '0' && b <= '9';
    }

    /** 'TOKENS: longest rows of letters a .. z, of digits, single other bytes, any blanks (32) between.' */
    private static void tokensByEachByte() {
        for (int b = 0; b < 256; b++) {
            char sign = (char) b;
            law("turns" + sign, b == ' ' ? -1 : isLetter(b) ? 0 : b == ';' ? 6 : 5);
            law(sign + "turns", b == ' ' ? -1 : 0);
            law("bars" + sign + "if 1=1", b == ' ' ? -1 : isLetter(b) ? 0 : b == ';' ? 5 : 4);
            boolean joins = "+-*/%;".indexOf(sign) >= 0;
            law("ages 1" + sign, b == ' ' || isDigit(b) ? -1 : joins ? 7 : 6);
            boolean between = "+-*/%".indexOf(sign) >= 0;
            law("ages 1" + sign + "1", between || isDigit(b) ? -1 : b == ' ' || b == ';' ? 7 : 6);
            law("bars if 1" + sign + "1", "<>=".indexOf(sign) >= 0 ? -1
                    : between || isDigit(b) ? 11 : b == ' ' ? 10 : 9);
            law("ages " + sign + "1", b == ' ' || isDigit(b) ? -1 : b == '[' ? 7 : 5);
        }
    }

    private static void longestRows() {
        law("turnsbars", 0);
        law("turns bars", 6);
        law("tu rns", 0);
        law("ages1", -1);
        law("ages1if1=1", -1);
        law("ages day1", 8);
        law("ages 1day", 6);
        law("ages 1 0", 7);
        law("ages 10", -1);
        law("ages dayif 1=1", 5);
        law("turnsif 1=1", 0);
        law("turns if1=1and2=2or not3=3", -1);
        law("turns if not not1=1", -1);
        law("turns if notnot 1=1", 9);
        law("turns if(1=1)and(2=2)", -1);
        law("turns;bars ; turns  ;  bars", -1);
        law("  ages   [ 1 + [ day * 2 ] ]   if   not   (  1  <  2  )  ", -1);
        orders("pass times2if day=0", -1);
        orders("ask asked0", -1);
        orders("pass times20", -1);
        orders("passtimes 2", 0);
        orders("pour9", -1);
    }

    /** 'CLAUSE {";" CLAUSE}, 12 at most (FAULT at the 13th's first TOKEN).' */
    private static void twelveClauses() {
        for (int n : new int[] {1, 2, 11, 12}) {
            law("bars" + ";bars".repeat(n - 1), -1);
            orders("pass" + ";pass".repeat(n - 1), -1);
        }
        String laws = "bars" + ";bars".repeat(11);
        String days = "pass" + ";pass".repeat(11);
        due("II: twelve clauses", laws.length(), 59);
        law(laws + ";bars", 60);
        law(laws + ";   bars", 63);
        law(laws + ";bars;bars", 60);
        law(laws + ";", 60);
        law(laws + ";  ", 62);
        law(laws + ";)", 60);
        law(laws + " bars", 60);
        orders(days + ";pass", 60);
        orders(days + ";", 60);
        orders(days + "; 7", 61);
        HutAnswers x = new HutAnswers();
        due("II: all twelve are run", Due.orders(x, days), 12);
        due("II: the twelfth can't be", Due.orders(x, "pass" + ";pass".repeat(10) + ";pour 0"), -3);
        due("II: it is clause 11", x.stopped(), 11);
        HutAnswers y = Scenes.oneQuestion(1, "ages 2" + ";turns if 1=2".repeat(10) + ";ages 3");
        due("II: the twelfth of a law holds", y.of(0, 3), 3);
    }

    private static final String[] OPENINGS_OF_LAWS = {
        "", "ages", "ages day", "ages [1", "ages 1 if", "bars if 1", "bars if 1 =", "bars if (1 = 2", "turns",
        "turns if not", "turns if 1 < 2 and", "turns if 1 < 2 or", "bars ;", "ages 1 +", "ages 2 *"};
    private static final String[] OPENINGS_OF_ORDERS = {
        "", "ask", "ask 1", "pour [1", "pass", "pass times", "pass times 2", "hide asked", "pass if", "pass if 1",
        "pass if ( 1", "pass if (1 = 2", "hide 1 if 1 = 1", "ask 1 ;"};
    private static final String[] TOKENS = {
        "", "1", "0", "21", "1000", "1001", "+", "-", "*", "/", "%", "<", ">", "=", "(", ")", "[", "]", ";", "if",
        "times", "not", "and", "or", "ages", "turns", "bars", "ask", "pour", "pass", "hide", "day", "age", "done",
        "answer", "left", "tea", "asked", "question", "years", "sort", "mood", "x", "A", "."};

    /** Every three tokens that may stand or not behind an opening, by the other reading of the grammar. */
    private static void grammarByShortTexts() {
        HutAnswers x = new HutAnswers();
        x.image(0);
        for (String opening : OPENINGS_OF_LAWS) {
            continued(x, opening, false);
        }
        for (String opening : OPENINGS_OF_ORDERS) {
            continued(x, opening, true);
        }
    }

    private static void continued(HutAnswers x, String opening, boolean ofOrders) {
        int wrong = 0;
        for (String a : TOKENS) {
            for (String b : TOKENS) {
                for (String c : b.isEmpty() ? new String[] {""} : TOKENS) {
                    String text = opening + " " + a + " " + b + " " + c;
                    Due.put(x, text);
                    if (ofOrders) {
                        x.orders();
                    } else {
                        x.law();
                    }
                    int want = new PlainText(text, ofOrders).fault;
                    if (x.fault() != want) {
                        due("13: fault of " + text, x.fault(), want);
                        wrong++;
                    }
                    x.back(0);
                }
            }
        }
        due("II: texts that begin with " + opening, wrong, 0);
    }

    /** 'NUMBER (to 1,000)'. */
    private static void numbersToAThousand() {
        law("ages 0", -1);
        law("ages 999", -1);
        law("ages 1000", -1);
        law("ages 1001", 5);
        law("ages 1010", 5);
        law("ages 9999", 5);
        law("ages 10000", 5);
        law("ages 4294967297", 5);
        law("ages 18446744073709551617", 5);
        law("ages 1+1001", 7);
        law("bars if day<1001", 12);
        law("ages " + "0".repeat(391) + "1000", -1);
        law("ages " + "0".repeat(391) + "1001", 5);
        law("ages " + "9".repeat(395), 5);
        orders("pour 1000", -1);
        orders("pour 1001", 5);
        orders("pass if 1001=1", 8);
        HutAnswers x = Scenes.oneQuestion(1, "ages 1000-901");
        due("II: 1000 is a thousand", x.of(0, 3), 99);
        x = Scenes.oneQuestion(1, "ages 0007");
        due("II: 0007 is seven", x.of(0, 3), 7);
        HutAnswers y = new HutAnswers();
        due("II: too many cups", Due.orders(y, "pour 1000"), -3);
    }

    /** '50 PARTS that are NUMBERS and words (FAULT at the 51st)'. */
    private static void fiftyParts() {
        String fifty = "ages 1" + "+day".repeat(49);
        law("ages 1" + "+day".repeat(48), -1);
        law(fifty, -1);
        law(fifty + "+day", fifty.length() + 1);
        law(fifty + "+1", fifty.length() + 1);
        law(fifty + "+1001", fifty.length() + 1);
        law(fifty + "+[", fifty.length() + 2);
        law(fifty + "+[1]", fifty.length() + 2);
        law(fifty + "+[[[[[[[[1]]]]]]]]", fifty.length() + 9);
        law(fifty + " if not", fifty.length() + 7);
        law(fifty + " if not 1=1", fifty.length() + 8);
        law(fifty + ";turns;bars;turns", -1);
        law(fifty + ";ages 1", fifty.length() + 6);
        law("ages [1]" + "+[1]".repeat(49), -1);
        law("ages [1]" + "+[1]".repeat(50), 8 + 4 * 49 + 2);
        law("bars if 1=1" + " or 1=1".repeat(24), -1);
        law("bars if 1=1" + " or 1=1".repeat(24) + " or 1=1", 11 + 7 * 24 + 4);
        law("bars if 1=1" + " or 1=1".repeat(24) + " or (not (1=1))", 11 + 7 * 24 + 10);
        String each = "ages 1 if 1=1;".repeat(11) + "ages 1 if 1+1+1+1+1+1+1+1+1+1+1+1+1+1+1=1";
        law(each, -1);
        law(each + "+1", each.length() + 1);
        due("II: fifty are reckoned", Scenes.oneQuestion(1, "ages 1" + "+1".repeat(49)).of(0, 3), 50);
    }

    /** 'Q, TIMES aside, NUMBERS and words count as PARTS.' */
    private static void fiftyPartsOfOrders() {
        String fifty = "pour 1" + "+1".repeat(49);
        orders(fifty, -1);
        orders(fifty + "+1", fifty.length() + 1);
        orders(fifty + "+done", fifty.length() + 1);
        orders(fifty + "+asked 1", fifty.length() + 1);
        orders(fifty + "+asked 9", fifty.length() + 1);
        orders(fifty + " times 20;pass times 20;pass times 1", -1);
        orders(fifty + ";pass times 20 if 1=1", fifty.length() + 18);
        String byAsked = "pour asked 1" + "+asked1".repeat(49);
        orders(byAsked, -1);
        orders(byAsked + "+asked1", byAsked.length() + 1);
        orders(byAsked + " times 20", -1);
        String asked49 = "pour asked 1" + "+asked1".repeat(48);
        orders(asked49 + "+asked 7", -1);
        orders(asked49 + "+asked 8", asked49.length() + 7);
        orders("pass times 3;".repeat(10) + "pour 1" + "+1".repeat(49), -1);
    }

    /** '8 brackets of both kinds within one another (FAULT at the 9th) at most.' */
    private static void eightBrackets() {
        for (int n : new int[] {1, 7, 8}) {
            law("ages " + "[".repeat(n) + "1" + "]".repeat(n), -1);
            law("bars if " + "(".repeat(n) + "1=1" + ")".repeat(n), -1);
            orders("pour " + "[".repeat(n) + "1" + "]".repeat(n), -1);
            orders("pass if " + "(".repeat(n) + "1=1" + ")".repeat(n), -1);
        }
        law("ages " + "[".repeat(9) + "1" + "]".repeat(9), 5 + 8);
        law("ages " + "[ ".repeat(9) + "1" + "]".repeat(9), 5 + 16);
        law("ages " + "[".repeat(9), 5 + 8);
        law("ages " + "[".repeat(8), 5 + 8);
        law("bars if " + "(".repeat(9) + "1=1" + ")".repeat(9), 8 + 8);
        law("bars if " + "not (".repeat(8) + "1=1" + ")".repeat(8), -1);
        law("bars if " + "not (".repeat(9) + "1=1" + ")".repeat(9), 8 + 8 * 5 + 4);
        for (int round = 0; round <= 8; round++) {
            int edged = 8 - round;
            String open = "bars if " + "(".repeat(round) + "[".repeat(edged);
            String close = "]".repeat(edged) + "=1" + ")".repeat(round);
            law(open + "1" + close, -1);
            law(open + "[1]" + close, 16);
            law("bars if " + "(".repeat(round) + "1=" + "[".repeat(edged) + "1" + "]".repeat(edged) + ")".repeat(round), -1);
        }
        String eight = "[".repeat(8) + "1" + "]".repeat(8);
        law("ages " + eight + "+" + eight + "*" + eight + " if " + eight + "=" + eight + ";ages " + eight, -1);
        law("ages " + eight + "+[" + eight + "]", 5 + 17 + 1 + 8);
        law("bars if ((((((((1=1)))))))) and ((((((((1=1)))))))) or ((((((((1=1))))))))", -1);
        orders("pass if " + "(".repeat(9) + "1=1" + ")".repeat(9), 16);
        orders("pour " + "[".repeat(9) + "1" + "]".repeat(9), 13);
        due("II: eight are reckoned", Scenes.oneQuestion(1, "ages 1+[1+[1+[1+[1+[1+[1+[1+[1]]]]]]]]").of(0, 3), 9);
    }

    /** 'the end's: the TEXT's length'; '-6 (blanks alone: FAULT at the end)'. */
    private static void theEndsFault() {
        for (int blanks : new int[] {0, 1, 2, 20, 399, 400}) {
            law(" ".repeat(blanks), blanks);
            orders(" ".repeat(blanks), blanks);
        }
        law("ages", 4);
        law("ages ", 5);
        law("ages 1+", 7);
        law("ages 1+  ", 9);
        law("ages [1", 7);
        law("ages [1 ", 8);
        law("turns if (1=1  ", 15);
        law("turns if", 8);
        law("turns ; ", 8);
        orders("ask ", 4);
        orders("pass times ", 11);
        orders("pour asked  ", 12);
        orders("pass;", 5);
        orders("hide 1 if 1 = ", 14);
    }

    /** What "ages" of a sum leaves: 0 .. 99, or 77 (the years) if it is BROKEN. */
    private static void ages(String sum, int want) {
        due("II: ages " + sum, Scenes.oneQuestion(77, "ages " + sum).of(0, 3), want);
    }

    /** 'Beyond 1,000,000,000 either way .. a SUM, a TEST is BROKEN'. */
    private static void beyondAThousandMillion() {
        String most = "1000*1000*1000";
        ages(most, 99);
        ages(most + "-1+1", 99);
        ages(most + "+0", 99);
        ages(most + "+1", 77);
        ages(most + "+1-1", 77);
        ages("1+" + most, 77);
        ages("1+[" + most + "-1]", 99);
        ages(most + "-[" + most + "-5]", 5);
        ages(most + "*1", 99);
        ages(most + "*2", 77);
        ages(most + "*1000*1000", 77);
        ages("[" + most + "]*[" + most + "]", 77);
        ages("[" + most + "]*0+3", 3);
        ages("0-" + most, 0);
        ages("0-" + most + "+1", 0);
        ages("0-" + most + "-1", 77);
        ages("[0-" + most + "-1+1]", 77);
        ages("[0-1]*" + most, 0);
        ages("[0-1]*" + most + "-1", 77);
        ages("[0-2]*" + most, 77);
        ages("[0-1000]*1000*1001", 77);
        ages("999*1000*1000+1000*1000", 99);
        ages("999*1000*1000+1000*1000+1", 77);
        ages("5+0*[" + most + "+1]", 77);
        String test = "turns if " + most + ">0;bars if " + most + "+1>0";
        HutAnswers x = Scenes.oneQuestion(1, test);
        due("II: a test at the most", x.of(0, 4), 1);
        due("II: a broken test", x.of(0, 5), 0);
        HutAnswers y = new HutAnswers();
        due("II: orders by a sum at the most", Due.orders(y, "pour [" + most + "]/1000/1000/1000"), 1);
        due("II: orders by a broken sum", Due.orders(y, "pour [" + most + "+1]/1000/1000/1000"), -3);
        due("II: orders by a test at the most", Due.orders(y, "pass if 0-" + most + "<0"), 1);
        due("II: orders by a broken test are not run", Due.orders(y, "pass if 0-" + most + "-1<0"), 0);
    }

    /** 'or divided by 0'. */
    private static void dividedByNothing() {
        ages("5/0", 77);
        ages("5%0", 77);
        ages("0/0", 77);
        ages("0%0", 77);
        ages("5/[1-1]", 77);
        ages("5%[day]", 77);
        ages("3+5/0", 77);
        ages("[5/0]*0", 77);
        ages("5/1", 5);
        ages("5%1", 0);
        ages("0/5", 0);
        ages("0-[5/[0-1]]", 5);
        HutAnswers y = new HutAnswers();
        due("II: orders divided by 0", Due.orders(y, "pour 1/tea"), -3);
        due("II: what is left by 0", Due.orders(y, "pour 1%tea"), -3);
        due("II: a test divided by 0", Due.orders(y, "pour 1 if 1/tea=0"), 0);
        due("II: hide by 0", Due.orders(y, "hide 0/0"), -3);
        due("II: ask by 0", Due.orders(y, "ask 0/0"), -3);
    }

    /** '/ cut towards 0, % what is left then'. */
    private static void cutTowardsNothing() {
        ages("7/2", 3);
        ages("10+[0-7]/2", 7);
        ages("10+7/[0-2]", 7);
        ages("[0-7]/[0-2]", 3);
        ages("1/2", 0);
        ages("10+[0-1]/2", 10);
        ages("7%2", 1);
        ages("10+[0-7]%2", 9);
        ages("7%[0-2]", 1);
        ages("10+[0-7]%[0-2]", 9);
        ages("10+[0-8]%2", 10);
        ages("9%10", 9);
        ages("20/2*5", 50);
        ages("20/[2*5]", 2);
        ages("20%7*2", 12);
        ages("2*20%7", 5);
        ages("20-5-3", 12);
        ages("20-[5-3]", 18);
        ages("2+3*4-6/2", 11);
    }

    private static void test(String test, int outcome) {
        HutAnswers x = Scenes.oneQuestion(1, "turns if " + test + ";bars if not (" + test + ")");
        due("II: if " + test, x.of(0, 4), outcome > 0 ? 1 : 0);
        due("II: if not (" + test + ")", x.of(0, 5), outcome == 0 ? 1 : 0);
        HutAnswers y = new HutAnswers();
        due("II: orders if " + test, Due.orders(y, "pass if " + test), outcome > 0 ? 1 : 0);
        due("II: orders if not (" + test + ")", Due.orders(y, "pass if not (" + test + ")"), outcome == 0 ? 1 : 0);
    }

    private static void brokenTests() {
        test("1/0=1", -1);
        test("1=1/0", -1);
        test("1/0<1", -1);
        test("1/0>1", -1);
        test("1/0=1/0", -1);
        test("not 1/0=1", -1);
        test("not not 1/0=1", -1);
        test("(1/0=1)", -1);
        test("1<2", 1);
        test("2<2", 0);
        test("3<2", 0);
        test("1>2", 0);
        test("2>2", 0);
        test("3>2", 1);
        test("1=2", 0);
        test("2=2", 1);
        test("3=2", 0);
        test("0-1<0", 1);
        test("0-2<0-1", 1);
        test("0-1=1-2", 1);
    }

    /** '"or", "and" ask what stands behind only if it can still matter'. */
    private static void onlyIfItCanStillMatter() {
        String so = "1=1";
        String not = "1=2";
        String broken = "1/0=1";
        String[] each = {broken, not, so};
        for (int a = -1; a < 2; a++) {
            for (int b = -1; b < 2; b++) {
                int or = a != 0 ? a : b;
                int and = a != 1 ? a : b;
                test(each[a + 1] + " or " + each[b + 1], or);
                test(each[a + 1] + " and " + each[b + 1], and);
                for (int c = -1; c < 2; c++) {
                    test(each[a + 1] + " or " + each[b + 1] + " or " + each[c + 1], or != 0 ? or : c);
                    test(each[a + 1] + " and " + each[b + 1] + " and " + each[c + 1], and != 1 ? and : c);
                    test(each[a + 1] + " and " + each[b + 1] + " or " + each[c + 1], and != 0 ? and : c);
                    int behind = b != 1 ? b : c;
                    test(each[a + 1] + " or " + each[b + 1] + " and " + each[c + 1], a != 0 ? a : behind);
                    int within = b != 0 ? b : c;
                    test(each[a + 1] + " and (" + each[b + 1] + " or " + each[c + 1] + ")", a != 1 ? a : within);
                    test("not " + each[a + 1] + " and not (" + each[b + 1] + " or " + each[c + 1] + ")",
                            a < 0 ? -1 : a == 1 ? 0 : within < 0 ? -1 : 1 - within);
                }
            }
        }
    }

    /** 'LAWS, 6 at most; one is in FORCE (NONE at first: no CLAUSE)'; '-5 (ahead of reading it ..)'. */
    private static void sixLaws() {
        HutAnswers x = Scenes.plain(2, 1);
        due("II: none in force at first", x.count(13), -1);
        for (int i = 0; i < 6; i++) {
            due("II: laws ahead of law " + i, x.count(5), i);
            due("15: not there yet", x.force(i), -2);
            due("11: law " + i, Due.law(x, "ages 1" + i), i);
            due("II: none in force as a law comes", x.count(13), i - 1);
            due("15: in force", x.force(i), i - 1);
            due("II: each has its own clauses", x.of(0, 3), 10 + i);
        }
        due("11: a text that can't be, without room", Due.law(x, "ages"), -5);
        due("13: it was not read", x.fault(), -1);
        due("11: the tape is empty then, too", x.count(7), 0);
        due("11: a seventh", Due.law(x, "ages 1"), -5);
        due("11: there are six", x.count(5), 6);
        due("15: no seventh", x.force(6), -2);
        due("11: an empty tape without room", x.law(), -5);
        due("II: the sixth is as it was", x.of(0, 3), 15);
        x.force(0);
        due("II: so is the first", x.of(0, 3), 10);
        x.force(-1);
        due("II: no clause without a law", x.of(0, 3) + x.of(0, 4) + x.of(0, 5), 0);
        due("12: orders have room", Due.orders(x, "pass"), 1);
    }

    /** 'All are asked of a QUESTION: age: AGE, asked: how often it was ASKED, left: how many THINGS are KNOWN.' */
    private static void wordsOfLaws() {
        String[] words = {"question", "years", "sort", "age", "asked", "left", "tea", "day", "mood"};
        int[][] worth = {{0, 9, 0, 9, 1, 8, 0, 0, 0}, {7, 4, 1, 17, 2, 4, 9, 31, 9}};
        for (int i = 0; i < words.length; i++) {
            HutAnswers x = Scenes.plain(8, 0);
            x.question(9, 0, 0);
            for (int q = 1; q < 7; q++) {
                x.question(2, 0, 0);
            }
            x.question(4, 1, Due.answers(0, 0, 0, 0, 1, 1, 1, 1));
            x.hide(0);
            x.ask(0);
            due("II: law", Due.law(x, "ages " + words[i]), 0);
            x.force(0);
            due("II: " + words[i] + " of question 0", x.of(0, 3), worth[0][i]);
            x.force(-1);
            x.ask(7);
            x.ask(7);
            x.terms(0, 31);
            x.terms(1, 9);
            x.pour(9);
            x.force(0);
            due("II: " + words[i] + " of question 7", x.of(7, 3), worth[1][i]);
        }
    }

    /** 'she AGES as the last "ages" that HOLDS tells, .. its YEARS without'. */
    private static void theLastThatHolds() {
        String[] laws = {"ages 1;ages 2;ages 3", "ages 1;ages 2;ages 3 if 1=2", "ages 1;ages 2 if 1=2;ages 3 if 1=2",
            "ages 1 if 1=2;ages 2 if 1=2", "ages 1;ages 1/0", "ages 1/0", "ages 1;ages 3 if 1/0=1",
            "ages 1 if 1/0=1", "turns;bars", "ages 1;turns;bars", "ages 3 if 1=1;ages 1000*1000*1000+1 if 1=1",
            "ages 0", "ages years", "ages years+1 if years=77", "ages 5 if not 1/0=1"};
        int[] want = {3, 2, 1, 77, 1, 77, 1, 77, 77, 1, 3, 0, 77, 78, 77};
        for (int i = 0; i < laws.length; i++) {
            due("II: " + laws[i], Scenes.oneQuestion(77, laws[i]).of(0, 3), want[i]);
        }
    }

    /** '0 .. 99 (else the nearest)'. */
    private static void theNearest() {
        ages("0-1", 0);
        ages("0-1000", 0);
        ages("0-1000*1000*1000", 0);
        ages("0", 0);
        ages("1", 1);
        ages("98", 98);
        ages("99", 99);
        ages("100", 99);
        ages("1000", 99);
        ages("1000*1000*1000", 99);
        HutAnswers x = Scenes.oneQuestion(1, "ages 100");
        x.hide(0);
        x.ask(0);
        due("II: she ages by the nearest", x.count(16), 99);
        HutAnswers y = Scenes.oneQuestion(1, "ages 0-50");
        y.terms(2, 60);
        y.hide(0);
        y.ask(0);
        due("II: nor grows younger", y.count(16), 60);
    }

    /** 'if "turns" HOLDS, she answers one more than the ANSWER (0 for 3)'. */
    private static void oneMoreThanTheAnswer() {
        HutAnswers x = Scenes.plain(4, 0);
        x.question(0, 0, Due.answers(0, 1, 2, 3));
        Due.law(x, "turns if mood=1;turns if mood>1 and 1/0=1;turns if 1=2");
        x.force(0);
        for (int mood = 0; mood < 3; mood++) {
            x.terms(1, mood);
            int more = mood == 1 ? 1 : 0;
            for (int t = 0; t < 4; t++) {
                x.hide(t);
                due("II: mood " + mood + ", thing " + t, x.ask(0), (t + more) % 4);
                due("II: what is known by it", x.known(0), 1 << t);
                due("4: its answer stays", x.of(0, 6 + t), t);
                due("4: whether one more", x.of(0, 4), more);
                x.hide(t);
                for (int answer = 0; answer < 4; answer++) {
                    due("22: odds", x.odds(0, answer), 1);
                }
            }
        }
        HutAnswers y = Scenes.oneQuestion(0, "turns;turns;turns");
        y.hide(1);
        due("II: one more at most", y.ask(0), 2);
    }

    /** 'a QUESTION is BARRED, if "bars" HOLDS.' */
    private static void barred() {
        String[] laws = {"bars", "bars if 1=1", "bars if 1=2", "bars if 1/0=1", "bars if 1=2;bars", "bars;bars if 1=2",
            "bars if not 1/0=1", "turns", "bars if question=1", "bars if question=0"};
        int[] want = {1, 1, 0, 0, 1, 1, 0, 0, 0, 1};
        for (int i = 0; i < laws.length; i++) {
            HutAnswers x = Scenes.oneQuestion(1, laws[i]);
            due("II: " + laws[i], x.of(0, 5), want[i]);
            x.hide(0);
            due("II: asked by " + laws[i], x.ask(0) < 0 ? 1 : 0, want[i]);
        }
    }

    private static void oneOrder(String order, int want) {
        HutAnswers x = Scenes.plain(3, 3);
        x.hide(0);
        due("II: " + order, Due.orders(x, order), want);
        due("14: " + order, x.stopped(), want < 0 ? 0 : -1);
    }

    /** '(a QUESTION; cups; a day; a THING, -1: none.)'; 'as ask(), pour(), pass(), hide() are REFUSED'. */
    private static void numbersOfOrders() {
        for (int n : new int[] {-1000, -2, -1, 0, 1, 2, 3, 8, 9, 10, 1000}) {
            String sum = n < 0 ? "0-" + -n : String.valueOf(n);
            oneOrder("ask " + sum, n >= 0 && n < 3 ? 1 : -3);
            oneOrder("pour " + sum, n >= 1 && n <= 9 ? 1 : -3);
            oneOrder("hide " + sum, n >= -1 && n < 3 ? 1 : -3);
        }
        oneOrder("ask 1000*1000*1000", -3);
        oneOrder("hide 0-1000*1000*1000", -3);
        oneOrder("pass", 1);
        HutAnswers x = new HutAnswers();
        x.terms(0, 998);
        due("II: the last day", Due.orders(x, "pass"), 1);
        due("II: none behind it", Due.orders(x, "pass"), -3);
        x.terms(0, 998);
        due("II: nor within one text", Due.orders(x, "pass;pass"), -3);
        due("II: all is as it was", x.count(14), 998);
        due("14: the second", x.stopped(), 1);
        HutAnswers y = Scenes.plain(1, 1);
        due("II: nothing is hidden", Due.orders(y, "ask 0"), -3);
        due("II: now it is", Due.orders(y, "hide 0;ask 0"), 2);
        due("II: hide none", Due.orders(y, "hide 0-1"), 1);
        due("II: none is hidden", y.count(3), -1);
    }

    /** 'TIMES: a NUMBER 1 .. 20'; 'each as often as TIMES tell (once without)'. */
    private static void times() {
        orders("pass times 0", 11);
        orders("pass times 00", 11);
        orders("pass times 21", 11);
        orders("pass times 100", 11);
        orders("pass times 1001", 11);
        orders("pass times 4294967297", 11);
        orders("pass times -1", 11);
        orders("pass times [1]", 11);
        orders("pass times 1 times 1", 13);
        orders("times 1", 0);
        orders("pour 1 times", 12);
        law("turns times 1", 6);
        for (int n : new int[] {1, 2, 19, 20}) {
            HutAnswers x = new HutAnswers();
            due("II: times " + n, Due.orders(x, "pass times " + n), n);
            due("II: days " + n, x.count(14), n);
            due("II: with zeros", Due.orders(x, "pass times 00" + n), n);
        }
        HutAnswers x = new HutAnswers();
        due("II: once without", Due.orders(x, "pass"), 1);
        due("II: twelve times twenty", Due.orders(x, "pass times 20" + ";pass times 20".repeat(11)), 240);
    }

    /** 'asked: -1 without such a QUESTION'; 'Q: a NUMBER 0 .. 7'; 'answer: the latest one in it (-1: none)'. */
    private static void wordsOfOrders() {
        for (int q : new int[] {0, 1, 6, 7}) {
            orders("pass if asked " + q + "=0", -1);
        }
        orders("pass if asked 8=0", 14);
        orders("pass if asked 1000=0", 14);
        orders("pass if asked 007=0", -1);
        orders("pass if asked=0", 13);
        orders("pass if asked -1=0", 14);
        orders("pass if asked tea=0", 14);
        HutAnswers x = Scenes.plain(2, 3);
        x.hide(0);
        Due.orders(x, "ask 0;ask 2 times 3");
        int[] asked = {1, 0, 3, -1, -1, -1, -1, -1};
        for (int q = 0; q < 8; q++) {
            due("12: asked " + q, Due.orders(x, "pass if asked " + q + "+1=" + (asked[q] + 1)), 1);
        }
        x = Scenes.plain(2, 0);
        x.question(5, 0, Due.answers(3, 2));
        due("12: -1 without an answer", Due.orders(x, "pass if answer=0-1;hide 1;pass if answer=0-1"), 3);
        due("12: the latest answer", Due.orders(x, "ask 0;pass if answer=2;hide 0;pass if answer=2;ask 0;pass if answer=3"), 6);
        due("12: of this text alone", Due.orders(x, "pass if answer=0-1"), 1);
        due("12: left", Due.orders(x, "pass if left=1;hide 0;pass if left=2"), 3);
        due("12: done", Due.orders(x, "pass if done=0;pass if done=0;pass if done=1;pass times 20 if done<5;pass if done=5"), 6);
        x.terms(0, 100);
        due("12: day", Due.orders(x, "pass if day=100;pass if day=101;pass if day=101"), 2);
        due("12: tea", Due.orders(x, "pour 9;pass if tea=9;pass if tea=8;pour 1 if tea=7"), 4);
        x.terms(2, 50);
        due("12: age", Due.orders(x, "hide 0;ask 0 if age=50;ask 0 if age=55;ask 0 if age=55"), 3);
        HutAnswers y = Scenes.plain(1, 1);
        Due.law(y, "turns");
        y.force(0);
        due("12: the answer as she gives it", Due.orders(y, "hide 0;ask 0;pour answer"), 3);
    }

    /** 'each time its "if" is asked (not run, if it is not so or BROKEN)'. */
    private static void eachTimeItsIfIsAsked() {
        HutAnswers x = new HutAnswers();
        due("12: as long as it is so", Due.orders(x, "pass times 20 if day<7"), 7);
        due("12: each second time it could be so", Due.orders(x, "pour 1 times 20 if tea<3;pass times 20 if tea>1"), 5);
        due("12: broken, then so", Due.orders(x, "pass times 5 if 9/[day-9]=0-1;pour 1;pass times 5 if tea=2"), 2);
        x = new HutAnswers();
        due("12: a broken sum is not asked where the if is not so", Due.orders(x, "pour 1/0 if 1=2;pour 99 if 1/0=1"), 0);
        due("12: none is run, none is refused", x.status(), 0);
        due("12: the sum anew each time", Due.orders(x, "pour tea+1 times 3"), 3);
        due("12: 1, 3, 7", x.count(4), 7);
        due("12: until it can't be", Due.orders(x, "pour tea+1 times 2"), -3);
        due("12: as it was", x.count(4), 7);
    }

    /** 'how many were run. -3 one can't be'; 'Which CLAUSE of the latest orders() could not be. NONE.' */
    private static void runsAndStops() {
        HutAnswers x = Scenes.plain(2, 1);
        due("14: none ahead of any", x.stopped(), -1);
        due("12: nothing is run", Due.orders(x, "pass if 1=2"), 0);
        due("14: none", x.stopped(), -1);
        due("12: the first can't be", Due.orders(x, "pour 0;pass"), -3);
        due("14: clause 0", x.stopped(), 0);
        due("12: the last can't be", Due.orders(x, "pass;pass;pour 1;hide 2"), -3);
        due("14: clause 3", x.stopped(), 3);
        due("12: the second time can't be", Due.orders(x, "pass;pour 9-9*done times 2"), -3);
        due("14: clause 1", x.stopped(), 1);
        due("12: a law changes nothing of it", Due.law(x, "turns") + x.stopped(), 1);
        due("12: nor ask()", x.ask(0) + x.stopped(), -2);
        due("12: one that can't be read", Due.orders(x, "pass pass"), -6);
        due("14: none", x.stopped(), -1);
        Due.orders(x, "pour 0");
        due("12: one that is run wholly", Due.orders(x, "pass"), 1);
        due("14: none", x.stopped(), -1);
        due("12: a day in all", x.count(14), 1);
    }

    /** 'FAULT of the latest law(), orders() that read a TEXT: its place; NONE without.' */
    private static void textsThatAreRead() {
        HutAnswers x = new HutAnswers();
        due("13: none ahead of any", x.fault(), -1);
        Due.law(x, "turns 1");
        due("13: of a law", x.fault(), 6);
        Due.put(x, "\0");
        x.row();
        due("13: a row reads none", x.fault(), 6);
        Due.orders(x, "pass 1");
        due("13: of orders", x.fault(), 5);
        Due.orders(x, "pour 0");
        due("13: orders that can't be have none", x.fault(), -1);
        x.orders();
        due("13: of an empty tape", x.fault(), 0);
        Due.law(x, "turns");
        due("13: a law without", x.fault(), -1);
        Due.orders(x, "ask");
        for (int i = 1; i < 6; i++) {
            Due.law(x, "bars");
            Due.orders(x, "ask");
        }
        due("13: of the latest orders", x.fault(), 3);
        due("11: no room", Due.law(x, "bars"), -5);
        due("13: a law without room reads none", x.fault(), 3);
    }

    /** No text leaves anything for the next one, however many are read. */
    private static void manyTexts() {
        HutAnswers x = Scenes.plain(1, 1);
        x.image(0);
        for (int i = 0; i < 20; i++) {
            due("11: a long law", Due.law(x, "ages 1" + "+1".repeat(48) + "+" + i), 0);
            x.force(0);
            due("11: all of it counts", x.of(0, 3), 49 + i);
            due("12: orders", Due.orders(x, "pass if 1" + "+1".repeat(47) + "=48-[" + i + "-" + i + "];pass"), -6);
            due("13: one part too many", x.fault(), 109 + String.valueOf(i).length());
            due("12: orders", Due.orders(x, "pass if 1" + "+1".repeat(46) + "=47-[" + i + "-" + i + "];pass"), 2);
            x.back(0);
        }
    }

    /** Promise 8: 'its first n bytes alone': what stood behind them is no part of any text. */
    private static void bytesBehindTheEnd() {
        String law = "ages [1+[day*20]]-tea%7 if not (1=1 or (2<3 and 10>9)) and left=100;turns ; bars if mood<5";
        String run = "pour [1+tea]*2 times 10 if not (1=1 and asked 7<1000);hide [0-1];pass times 2;ask asked 3";
        for (int n = 0; n <= law.length(); n++) {
            HutAnswers x = new HutAnswers();
            Due.put(x, law);
            due("8: end(" + n + ")", x.end(n), n);
            x.law();
            due("13: fault of the first " + n + " bytes of a law", x.fault(), new PlainText(law.substring(0, n), false).fault);
        }
        for (int n = 0; n <= run.length(); n++) {
            HutAnswers x = new HutAnswers();
            Due.put(x, run);
            x.end(n);
            x.orders();
            due("13: fault of the first " + n + " bytes of orders", x.fault(), new PlainText(run.substring(0, n), true).fault);
        }
        HutAnswers x = new HutAnswers();
        Due.put(x, "ages [1]");
        x.end(7);
        due("11: without its last byte", x.law() * 10 - x.fault(), -67);
        Due.put(x, "ages 100");
        x.end(7);
        due("11: it is ten", x.law(), 0);
        x.question(1, 0, 0);
        x.force(0);
        due("11: ten years", x.of(0, 3), 10);
    }
}
