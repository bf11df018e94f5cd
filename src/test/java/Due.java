/** What the tests share: answers held against those that are due, and texts put on a tape. */
final class Due {
    private int wrong;
    private int asked;

    void same(String what, long got, long want) {
        asked++;
        if (got != want) {
            wrong++;
            System.out.println(what + " answered " + got + ", due is " + want);
        }
    }

    void isTrue(String what, boolean so) {
        same(what, so ? 1 : 0, 1);
    }

    /** Ends the program with 1 if an answer was not the one due. */
    void close(String name) {
        System.out.println(name + ": " + asked + " answers, " + wrong + " wrong");
        if (wrong != 0 || asked == 0) {
            System.exit(1);
        }
    }

    /** Puts the signs on the tape, which has to be empty. */
    static void put(HutAnswers x, String signs) {
        byte[] bytes = new byte[(signs.length() + 19) / 20 * 20];
        for (int i = 0; i < signs.length(); i++) {
            bytes[i] = (byte) signs.charAt(i);
        }
        for (int at = 0; at < bytes.length; at += 20) {
            x.feed(four(bytes, at), four(bytes, at + 4), four(bytes, at + 8),
                    four(bytes, at + 12), four(bytes, at + 16));
        }
        x.end(signs.length());
    }

    private static int four(byte[] bytes, int at) {
        return (bytes[at] & 255) << 24 | (bytes[at + 1] & 255) << 16
                | (bytes[at + 2] & 255) << 8 | bytes[at + 3] & 255;
    }

    static int law(HutAnswers x, String signs) {
        put(x, signs);
        return x.law();
    }

    static int orders(HutAnswers x, String signs) {
        put(x, signs);
        return x.orders();
    }

    /** The ANSWERS of things 0, 1, .. as a question takes them. */
    static int answers(int... each) {
        int bits = 0;
        for (int t = 0; t < each.length; t++) {
            bits |= each[t] << 2 * t;
        }
        return bits;
    }
}
