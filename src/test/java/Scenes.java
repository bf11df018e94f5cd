/** Huts that several tests begin with. */
final class Scenes {
    private Scenes() {
    }

    /** Four things of the weights 5, 3, 2, 10; questions of 3, 2 and 6 years; nothing hidden. */
    static HutAnswers four() {
        HutAnswers x = new HutAnswers();
        x.thing(5);
        x.thing(3);
        x.thing(2);
        x.thing(10);
        x.question(3, 0, Due.answers(0, 0, 1, 1));
        x.question(2, 1, Due.answers(0, 1, 0, 1));
        x.question(6, 1, Due.answers(0, 1, 2, 3));
        return x;
    }

    /** So many things of the weight 1, so many questions that cost nothing and tell nothing. */
    static HutAnswers plain(int things, int questions) {
        HutAnswers x = new HutAnswers();
        for (int i = 0; i < things; i++) {
            x.thing(1);
        }
        for (int i = 0; i < questions; i++) {
            x.question(0, 0, 0);
        }
        return x;
    }

    /** One question of so many years, and a law in force. */
    static HutAnswers oneQuestion(int years, String law) {
        HutAnswers x = plain(2, 0);
        x.question(years, 0, Due.answers(0, 1));
        Due.law(x, law);
        x.force(0);
        return x;
    }

    /** Something of all there is, none of it at a limit; a law's text on the tape. */
    static HutAnswers middle() {
        HutAnswers x = four();
        x.visitor(3);
        x.visitor(6);
        Due.law(x, "ages years+asked+left;turns if question=1;bars if asked>1");
        Due.law(x, "ages 9-tea+mood");
        x.force(0);
        Due.put(x, "\u0064\0\0\0\1");
        x.row();
        x.terms(0, 40);
        x.terms(1, 4);
        x.terms(2, 300);
        x.image(0);
        x.huts(77, 3);
        x.hide(2);
        x.pour(5);
        x.ask(0);
        x.ask(0);
        x.pass();
        Due.law(x, "bars bars");
        Due.orders(x, "pass;pour 0");
        Due.law(x, "turns 1");
        Due.put(x, "ages 8;turns if day>40");
        return x;
    }

    /** All there is room for; every number at its most; 16 acts to undo. */
    static HutAnswers full() {
        HutAnswers x = new HutAnswers();
        for (int i = 0; i < 8; i++) {
            x.thing(99);
            x.question(99 - i, i & 1, 3 << 2 * i);
        }
        for (int i = 0; i < 6; i++) {
            x.visitor(255 - i);
            Due.law(x, i == 5 ? "ages left;bars if question=7" : "ages 1");
        }
        x.image(0);
        x.image(1);
        x.force(5);
        x.terms(0, 999);
        x.terms(1, 9);
        x.terms(2, 9999);
        x.hide(7);
        for (int i = 0; i < 16; i++) {
            x.pour(9);
        }
        x.huts(1000000, 40);
        Due.put(x, "pour 1" + " ".repeat(387) + ";pour 2");
        return x;
    }
}
